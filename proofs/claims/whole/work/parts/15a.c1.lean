theorem d_Ta_signsIn_0 : decode q_Ta_signsIn.2.1 0 = .ok (.iconst 0, 1) := by decide +kernel
theorem d_Ta_signsIn_1 : decode q_Ta_signsIn.2.1 1 = .ok (.istore_n 1, 1) := by decide +kernel
theorem d_Ta_signsIn_2 : decode q_Ta_signsIn.2.1 2 = .ok (.bipush 24, 2) := by decide +kernel
theorem d_Ta_signsIn_4 : decode q_Ta_signsIn.2.1 4 = .ok (.istore_n 2, 1) := by decide +kernel
theorem d_Ta_signsIn_5 : decode q_Ta_signsIn.2.1 5 = .ok (.iload_n 2, 1) := by decide +kernel
theorem d_Ta_signsIn_6 : decode q_Ta_signsIn.2.1 6 = .ok (.ifCond .lt 22, 3) := by decide +kernel
theorem d_Ta_signsIn_9 : decode q_Ta_signsIn.2.1 9 = .ok (.iload_n 0, 1) := by decide +kernel
theorem d_Ta_signsIn_10 : decode q_Ta_signsIn.2.1 10 = .ok (.iload_n 2, 1) := by decide +kernel
theorem d_Ta_signsIn_11 : decode q_Ta_signsIn.2.1 11 = .ok (.iushr, 1) := by decide +kernel
theorem d_Ta_signsIn_12 : decode q_Ta_signsIn.2.1 12 = .ok (.sipush 255, 3) := by decide +kernel
theorem d_Ta_signsIn_15 : decode q_Ta_signsIn.2.1 15 = .ok (.iand, 1) := by decide +kernel
theorem d_Ta_signsIn_16 : decode q_Ta_signsIn.2.1 16 = .ok (.ifCond .eq 6, 3) := by decide +kernel
theorem d_Ta_signsIn_22 : decode q_Ta_signsIn.2.1 22 = .ok (.iinc 2 (-8), 3) := by decide +kernel
theorem ic_m8 : Int32.ofInt (-8) = (-8 : Int32) := by decide
theorem d_Ta_signsIn_25 : decode q_Ta_signsIn.2.1 25 = .ok (.goto (-20), 3) := by decide +kernel
theorem d_Ta_signsIn_28 : decode q_Ta_signsIn.2.1 28 = .ok (.iload_n 1, 1) := by decide +kernel
theorem d_Ta_signsIn_29 : decode q_Ta_signsIn.2.1 29 = .ok (.ireturn, 1) := by decide +kernel
theorem d_Ta_signsIn_19 : decode q_Ta_signsIn.2.1 19 = .ok (.iinc 1 1, 3) := by decide +kernel
theorem d_Ta_add_0 : decode q_Ta_add.2.1 0 = .ok (.bipush 24, 2) := by decide +kernel
theorem d_Ta_add_2 : decode q_Ta_add.2.1 2 = .ok (.istore_n 2, 1) := by decide +kernel
theorem d_Ta_add_3 : decode q_Ta_add.2.1 3 = .ok (.iload_n 2, 1) := by decide +kernel
theorem d_Ta_add_4 : decode q_Ta_add.2.1 4 = .ok (.ifCond .lt 53, 3) := by decide +kernel
theorem d_Ta_add_7 : decode q_Ta_add.2.1 7 = .ok (.iload_n 1, 1) := by decide +kernel
theorem d_Ta_add_8 : decode q_Ta_add.2.1 8 = .ok (.iload_n 2, 1) := by decide +kernel
theorem d_Ta_add_9 : decode q_Ta_add.2.1 9 = .ok (.iushr, 1) := by decide +kernel
theorem d_Ta_add_10 : decode q_Ta_add.2.1 10 = .ok (.sipush 255, 3) := by decide +kernel
theorem d_Ta_add_13 : decode q_Ta_add.2.1 13 = .ok (.iand, 1) := by decide +kernel
theorem d_Ta_add_14 : decode q_Ta_add.2.1 14 = .ok (.istore_n 3, 1) := by decide +kernel
theorem d_Ta_add_15 : decode q_Ta_add.2.1 15 = .ok (.iload_n 3, 1) := by decide +kernel
theorem d_Ta_add_16 : decode q_Ta_add.2.1 16 = .ok (.ifCond .eq 35, 3) := by decide +kernel
theorem d_Ta_add_51 : decode q_Ta_add.2.1 51 = .ok (.iinc 2 (-8), 3) := by decide +kernel
theorem d_Ta_add_54 : decode q_Ta_add.2.1 54 = .ok (.goto (-51), 3) := by decide +kernel
theorem d_Ta_add_57 : decode q_Ta_add.2.1 57 = .ok (.return_, 1) := by decide +kernel
theorem d_Ta_add_19 : decode q_Ta_add.2.1 19 = .ok (.aload_n 0, 1) := by decide +kernel
theorem d_Ta_add_20 : decode q_Ta_add.2.1 20 = .ok (.getfield 15, 3) := by decide +kernel
theorem fl_Ta_15 : rx_F "GlassRoom$Tape" 15 10 1 := ⟨(RX10, TX10, 3), rfl, by decide, (rx_s1 42 rfl rfl), rx_T10⟩
theorem d_Ta_add_23 : decode q_Ta_add.2.1 23 = .ok (.aload_n 0, 1) := by decide +kernel
theorem d_Ta_add_24 : decode q_Ta_add.2.1 24 = .ok (.getfield 9, 3) := by decide +kernel
theorem fl_Ta_9 : rx_F "GlassRoom$Tape" 9 10 0 := ⟨(RX10, TX10, 3), rfl, by decide, (rx_s1 39 rfl rfl), rx_T10⟩
theorem d_Ta_add_27 : decode q_Ta_add.2.1 27 = .ok (.arraylength, 1) := by decide +kernel
theorem d_Ta_add_28 : decode q_Ta_add.2.1 28 = .ok (.if_icmp .ge 23, 3) := by decide +kernel
theorem d_Ta_add_31 : decode q_Ta_add.2.1 31 = .ok (.aload_n 0, 1) := by decide +kernel
theorem d_Ta_add_32 : decode q_Ta_add.2.1 32 = .ok (.getfield 9, 3) := by decide +kernel
theorem d_Ta_add_35 : decode q_Ta_add.2.1 35 = .ok (.aload_n 0, 1) := by decide +kernel
theorem d_Ta_add_36 : decode q_Ta_add.2.1 36 = .ok (.getfield 15, 3) := by decide +kernel
theorem d_Ta_add_39 : decode q_Ta_add.2.1 39 = .ok (.iload_n 3, 1) := by decide +kernel
theorem d_Ta_add_40 : decode q_Ta_add.2.1 40 = .ok (.iastore, 1) := by decide +kernel
theorem d_Ta_add_41 : decode q_Ta_add.2.1 41 = .ok (.aload_n 0, 1) := by decide +kernel
theorem d_Ta_add_42 : decode q_Ta_add.2.1 42 = .ok (.dup, 1) := by decide +kernel
theorem d_Ta_add_43 : decode q_Ta_add.2.1 43 = .ok (.getfield 15, 3) := by decide +kernel
theorem d_Ta_add_46 : decode q_Ta_add.2.1 46 = .ok (.iconst 1, 1) := by decide +kernel
theorem d_Ta_add_47 : decode q_Ta_add.2.1 47 = .ok (.iadd, 1) := by decide +kernel
theorem d_Ta_add_48 : decode q_Ta_add.2.1 48 = .ok (.putfield 15, 3) := by decide +kernel
theorem fp_Ta_15 : rx_FP "GlassRoom$Tape" 15 10 1 (.int) := ⟨(RX10, TX10, 3), tyX10, rfl, by decide, (rx_s1 42 rfl rfl), rx_T10, tyX10_ok, nmX10, rfl, rfl⟩
theorem d_Ta_look_0 : decode q_Ta_look.2.1 0 = .ok (.aload_n 0, 1) := by decide +kernel
theorem d_Ta_look_1 : decode q_Ta_look.2.1 1 = .ok (.getfield 19, 3) := by decide +kernel
theorem fl_Ta_19 : rx_F "GlassRoom$Tape" 19 10 2 := ⟨(RX10, TX10, 3), rfl, by decide, (rx_s1 45 rfl rfl), rx_T10⟩
theorem d_Ta_look_4 : decode q_Ta_look.2.1 4 = .ok (.aload_n 0, 1) := by decide +kernel
theorem d_Ta_look_5 : decode q_Ta_look.2.1 5 = .ok (.getfield 15, 3) := by decide +kernel
theorem d_Ta_look_8 : decode q_Ta_look.2.1 8 = .ok (.if_icmp .ge 30, 3) := by decide +kernel
theorem d_Ta_look_11 : decode q_Ta_look.2.1 11 = .ok (.aload_n 0, 1) := by decide +kernel
theorem d_Ta_look_12 : decode q_Ta_look.2.1 12 = .ok (.getfield 9, 3) := by decide +kernel
theorem d_Ta_look_15 : decode q_Ta_look.2.1 15 = .ok (.aload_n 0, 1) := by decide +kernel
theorem d_Ta_look_16 : decode q_Ta_look.2.1 16 = .ok (.getfield 19, 3) := by decide +kernel
theorem d_Ta_look_38 : decode q_Ta_look.2.1 38 = .ok (.aload_n 0, 1) := by decide +kernel
theorem d_Ta_look_39 : decode q_Ta_look.2.1 39 = .ok (.getfield 19, 3) := by decide +kernel
theorem d_Ta_look_42 : decode q_Ta_look.2.1 42 = .ok (.aload_n 0, 1) := by decide +kernel
theorem d_Ta_look_43 : decode q_Ta_look.2.1 43 = .ok (.getfield 15, 3) := by decide +kernel
theorem d_Ta_look_46 : decode q_Ta_look.2.1 46 = .ok (.if_icmp .ge 15, 3) := by decide +kernel
theorem d_Ta_look_61 : decode q_Ta_look.2.1 61 = .ok (.iconst 0, 1) := by decide +kernel
theorem d_Ta_look_62 : decode q_Ta_look.2.1 62 = .ok (.ireturn, 1) := by decide +kernel
theorem d_Ta_look_19 : decode q_Ta_look.2.1 19 = .ok (.iaload, 1) := by decide +kernel
theorem d_Ta_look_20 : decode q_Ta_look.2.1 20 = .ok (.bipush 32, 2) := by decide +kernel
theorem d_Ta_look_22 : decode q_Ta_look.2.1 22 = .ok (.if_icmp .ne 16, 3) := by decide +kernel
theorem d_Ta_look_25 : decode q_Ta_look.2.1 25 = .ok (.aload_n 0, 1) := by decide +kernel
theorem d_Ta_look_26 : decode q_Ta_look.2.1 26 = .ok (.dup, 1) := by decide +kernel
theorem d_Ta_look_27 : decode q_Ta_look.2.1 27 = .ok (.getfield 19, 3) := by decide +kernel
theorem d_Ta_look_30 : decode q_Ta_look.2.1 30 = .ok (.iconst 1, 1) := by decide +kernel
theorem d_Ta_look_31 : decode q_Ta_look.2.1 31 = .ok (.iadd, 1) := by decide +kernel
theorem d_Ta_look_32 : decode q_Ta_look.2.1 32 = .ok (.putfield 19, 3) := by decide +kernel
theorem fp_Ta_19 : rx_FP "GlassRoom$Tape" 19 10 2 (.int) := ⟨(RX10, TX10, 3), tyX10, rfl, by decide, (rx_s1 45 rfl rfl), rx_T10, tyX10_ok, nmX10, rfl, rfl⟩
theorem d_Ta_look_35 : decode q_Ta_look.2.1 35 = .ok (.goto (-35), 3) := by decide +kernel
theorem d_Ta_look_49 : decode q_Ta_look.2.1 49 = .ok (.aload_n 0, 1) := by decide +kernel
theorem d_Ta_look_50 : decode q_Ta_look.2.1 50 = .ok (.getfield 9, 3) := by decide +kernel
theorem d_Ta_look_53 : decode q_Ta_look.2.1 53 = .ok (.aload_n 0, 1) := by decide +kernel
theorem d_Ta_look_54 : decode q_Ta_look.2.1 54 = .ok (.getfield 19, 3) := by decide +kernel
theorem d_Ta_look_57 : decode q_Ta_look.2.1 57 = .ok (.iaload, 1) := by decide +kernel
theorem d_Ta_look_58 : decode q_Ta_look.2.1 58 = .ok (.goto 4, 3) := by decide +kernel
theorem d_Ta_number_0 : decode q_Ta_number.2.1 0 = .ok (.iconst 0, 1) := by decide +kernel
theorem d_Ta_number_1 : decode q_Ta_number.2.1 1 = .ok (.istore_n 2, 1) := by decide +kernel
theorem d_Ta_number_2 : decode q_Ta_number.2.1 2 = .ok (.iconst 0, 1) := by decide +kernel
theorem d_Ta_number_3 : decode q_Ta_number.2.1 3 = .ok (.istore_n 3, 1) := by decide +kernel
theorem d_Ta_number_4 : decode q_Ta_number.2.1 4 = .ok (.aload_n 0, 1) := by decide +kernel
theorem d_Ta_number_5 : decode q_Ta_number.2.1 5 = .ok (.getfield 19, 3) := by decide +kernel
theorem d_Ta_number_8 : decode q_Ta_number.2.1 8 = .ok (.aload_n 0, 1) := by decide +kernel
theorem d_Ta_number_9 : decode q_Ta_number.2.1 9 = .ok (.getfield 15, 3) := by decide +kernel
theorem d_Ta_number_12 : decode q_Ta_number.2.1 12 = .ok (.if_icmp .ge 72, 3) := by decide +kernel
theorem d_Ta_number_84 : decode q_Ta_number.2.1 84 = .ok (.iload_n 3, 1) := by decide +kernel
theorem d_Ta_number_85 : decode q_Ta_number.2.1 85 = .ok (.ifCond .ne 7, 3) := by decide +kernel
theorem d_Ta_number_88 : decode q_Ta_number.2.1 88 = .ok (.iconst (-1), 1) := by decide +kernel
theorem d_Ta_number_89 : decode q_Ta_number.2.1 89 = .ok (.goto 4, 3) := by decide +kernel
theorem d_Ta_number_92 : decode q_Ta_number.2.1 92 = .ok (.iload_n 2, 1) := by decide +kernel
theorem d_Ta_number_93 : decode q_Ta_number.2.1 93 = .ok (.ireturn, 1) := by decide +kernel
theorem d_Ta_number_15 : decode q_Ta_number.2.1 15 = .ok (.aload_n 0, 1) := by decide +kernel
theorem d_Ta_number_16 : decode q_Ta_number.2.1 16 = .ok (.getfield 9, 3) := by decide +kernel
theorem d_Ta_number_19 : decode q_Ta_number.2.1 19 = .ok (.aload_n 0, 1) := by decide +kernel
theorem d_Ta_number_20 : decode q_Ta_number.2.1 20 = .ok (.getfield 19, 3) := by decide +kernel
theorem d_Ta_number_23 : decode q_Ta_number.2.1 23 = .ok (.iaload, 1) := by decide +kernel
theorem d_Ta_number_24 : decode q_Ta_number.2.1 24 = .ok (.bipush 48, 2) := by decide +kernel
theorem d_Ta_number_26 : decode q_Ta_number.2.1 26 = .ok (.if_icmp .lt 58, 3) := by decide +kernel
theorem d_Ta_number_29 : decode q_Ta_number.2.1 29 = .ok (.aload_n 0, 1) := by decide +kernel
theorem d_Ta_number_30 : decode q_Ta_number.2.1 30 = .ok (.getfield 9, 3) := by decide +kernel
theorem d_Ta_number_33 : decode q_Ta_number.2.1 33 = .ok (.aload_n 0, 1) := by decide +kernel
theorem d_Ta_number_34 : decode q_Ta_number.2.1 34 = .ok (.getfield 19, 3) := by decide +kernel
theorem d_Ta_number_37 : decode q_Ta_number.2.1 37 = .ok (.iaload, 1) := by decide +kernel
theorem d_Ta_number_38 : decode q_Ta_number.2.1 38 = .ok (.bipush 57, 2) := by decide +kernel
theorem d_Ta_number_40 : decode q_Ta_number.2.1 40 = .ok (.if_icmp .gt 44, 3) := by decide +kernel
theorem d_Ta_number_43 : decode q_Ta_number.2.1 43 = .ok (.iload_n 3, 1) := by decide +kernel
theorem d_Ta_number_44 : decode q_Ta_number.2.1 44 = .ok (.iload_n 1, 1) := by decide +kernel
theorem d_Ta_number_45 : decode q_Ta_number.2.1 45 = .ok (.if_icmp .ne 5, 3) := by decide +kernel
theorem d_Ta_number_48 : decode q_Ta_number.2.1 48 = .ok (.iconst (-1), 1) := by decide +kernel
theorem d_Ta_number_49 : decode q_Ta_number.2.1 49 = .ok (.ireturn, 1) := by decide +kernel
theorem d_Ta_number_50 : decode q_Ta_number.2.1 50 = .ok (.bipush 10, 2) := by decide +kernel
theorem d_Ta_number_52 : decode q_Ta_number.2.1 52 = .ok (.iload_n 2, 1) := by decide +kernel
theorem d_Ta_number_53 : decode q_Ta_number.2.1 53 = .ok (.imul, 1) := by decide +kernel
theorem d_Ta_number_54 : decode q_Ta_number.2.1 54 = .ok (.aload_n 0, 1) := by decide +kernel
theorem d_Ta_number_55 : decode q_Ta_number.2.1 55 = .ok (.getfield 9, 3) := by decide +kernel
theorem d_Ta_number_58 : decode q_Ta_number.2.1 58 = .ok (.aload_n 0, 1) := by decide +kernel
theorem d_Ta_number_59 : decode q_Ta_number.2.1 59 = .ok (.getfield 19, 3) := by decide +kernel
theorem d_Ta_number_62 : decode q_Ta_number.2.1 62 = .ok (.iaload, 1) := by decide +kernel
theorem d_Ta_number_63 : decode q_Ta_number.2.1 63 = .ok (.iadd, 1) := by decide +kernel
theorem d_Ta_number_64 : decode q_Ta_number.2.1 64 = .ok (.bipush 48, 2) := by decide +kernel
theorem d_Ta_number_66 : decode q_Ta_number.2.1 66 = .ok (.isub, 1) := by decide +kernel
theorem d_Ta_number_67 : decode q_Ta_number.2.1 67 = .ok (.istore_n 2, 1) := by decide +kernel
theorem d_Ta_number_68 : decode q_Ta_number.2.1 68 = .ok (.iinc 3 1, 3) := by decide +kernel
theorem d_Ta_number_71 : decode q_Ta_number.2.1 71 = .ok (.aload_n 0, 1) := by decide +kernel
theorem d_Ta_number_72 : decode q_Ta_number.2.1 72 = .ok (.dup, 1) := by decide +kernel
theorem d_Ta_number_73 : decode q_Ta_number.2.1 73 = .ok (.getfield 19, 3) := by decide +kernel
theorem d_Ta_number_76 : decode q_Ta_number.2.1 76 = .ok (.iconst 1, 1) := by decide +kernel
theorem d_Ta_number_77 : decode q_Ta_number.2.1 77 = .ok (.iadd, 1) := by decide +kernel
theorem d_Ta_number_78 : decode q_Ta_number.2.1 78 = .ok (.putfield 19, 3) := by decide +kernel
theorem d_Ta_number_81 : decode q_Ta_number.2.1 81 = .ok (.goto (-77), 3) := by decide +kernel
theorem d_Di_measure_0 : decode q_Di_measure.2.1 0 = .ok (.aload_n 0, 1) := by decide +kernel
theorem d_Di_measure_1 : decode q_Di_measure.2.1 1 = .ok (.aload_n 0, 1) := by decide +kernel
theorem d_Di_measure_2 : decode q_Di_measure.2.1 2 = .ok (.getfield 18, 3) := by decide +kernel
theorem fl_Di_18 : rx_F "GlassRoom$Distances" 18 2 0 := ⟨(RX2, TX2, 10), rfl, by decide, (rx_s1 208 rfl rfl), rx_T2⟩
theorem d_Di_measure_5 : decode q_Di_measure.2.1 5 = .ok (.getfield 22, 3) := by decide +kernel
theorem fl_Di_22 : rx_F "GlassRoom$Distances" 22 3 7 := ⟨(RX3, TX3, 9), rfl, by decide, (rx_s1 101 rfl rfl), rx_T3⟩
theorem d_Di_measure_8 : decode q_Di_measure.2.1 8 = .ok (.invokestatic 28, 3) := by decide +kernel
theorem ml_Di_28 : rx_CS "GlassRoom$Distances" 28 q_Ha_lowI 1 := ⟨⟨(rx_s4 23 rfl rfl), (rx_s3 199 rfl rfl)⟩, ⟨(rx_s1 3 rfl rfl), q_Ha_lowI_k, ⟨by decide, by decide, by decide +kernel⟩, by decide⟩⟩
theorem d_Di_measure_11 : decode q_Di_measure.2.1 11 = .ok (.putfield 32, 3) := by decide +kernel
theorem fp_Di_32 : rx_FP "GlassRoom$Distances" 32 2 3 (.int) := ⟨(RX2, TX2, 10), tyX2, rfl, by decide, (rx_s1 211 rfl rfl), rx_T2, tyX2_ok, nmX2, rfl, rfl⟩
theorem d_Di_measure_14 : decode q_Di_measure.2.1 14 = .ok (.aload_n 0, 1) := by decide +kernel
theorem d_Di_measure_15 : decode q_Di_measure.2.1 15 = .ok (.aload_n 0, 1) := by decide +kernel
theorem d_Di_measure_16 : decode q_Di_measure.2.1 16 = .ok (.getfield 18, 3) := by decide +kernel
theorem d_Di_measure_19 : decode q_Di_measure.2.1 19 = .ok (.getfield 22, 3) := by decide +kernel
theorem d_Di_measure_22 : decode q_Di_measure.2.1 22 = .ok (.invokestatic 34, 3) := by decide +kernel
theorem ml_Di_34 : rx_CS "GlassRoom$Distances" 34 q_Ha_highI 1 := ⟨⟨(rx_s4 24 rfl rfl), (rx_s3 205 rfl rfl)⟩, ⟨(rx_s1 3 rfl rfl), q_Ha_highI_k, ⟨by decide, by decide, by decide +kernel⟩, by decide⟩⟩
theorem d_Di_measure_25 : decode q_Di_measure.2.1 25 = .ok (.putfield 37, 3) := by decide +kernel
theorem fp_Di_37 : rx_FP "GlassRoom$Distances" 37 2 4 (.int) := ⟨(RX2, TX2, 10), tyX2, rfl, by decide, (rx_s1 213 rfl rfl), rx_T2, tyX2_ok, nmX2, rfl, rfl⟩
theorem d_Di_measure_28 : decode q_Di_measure.2.1 28 = .ok (.aload_n 0, 1) := by decide +kernel
theorem d_Di_measure_29 : decode q_Di_measure.2.1 29 = .ok (.aload_n 0, 1) := by decide +kernel
theorem d_Di_measure_30 : decode q_Di_measure.2.1 30 = .ok (.getfield 18, 3) := by decide +kernel
theorem d_Di_measure_33 : decode q_Di_measure.2.1 33 = .ok (.getfield 22, 3) := by decide +kernel
theorem d_Di_measure_36 : decode q_Di_measure.2.1 36 = .ok (.invokestatic 39, 3) := by decide +kernel
theorem ml_Di_39 : rx_CS "GlassRoom$Distances" 39 q_Ha_lowJ 1 := ⟨⟨(rx_s4 25 rfl rfl), (rx_s3 211 rfl rfl)⟩, ⟨(rx_s1 3 rfl rfl), q_Ha_lowJ_k, ⟨by decide, by decide, by decide +kernel⟩, by decide⟩⟩
theorem d_Di_measure_39 : decode q_Di_measure.2.1 39 = .ok (.putfield 42, 3) := by decide +kernel
theorem fp_Di_42 : rx_FP "GlassRoom$Distances" 42 2 5 (.int) := ⟨(RX2, TX2, 10), tyX2, rfl, by decide, (rx_s1 215 rfl rfl), rx_T2, tyX2_ok, nmX2, rfl, rfl⟩
theorem d_Di_measure_42 : decode q_Di_measure.2.1 42 = .ok (.aload_n 0, 1) := by decide +kernel
theorem d_Di_measure_43 : decode q_Di_measure.2.1 43 = .ok (.aload_n 0, 1) := by decide +kernel
theorem d_Di_measure_44 : decode q_Di_measure.2.1 44 = .ok (.getfield 18, 3) := by decide +kernel
theorem d_Di_measure_47 : decode q_Di_measure.2.1 47 = .ok (.getfield 22, 3) := by decide +kernel
theorem d_Di_measure_50 : decode q_Di_measure.2.1 50 = .ok (.invokestatic 44, 3) := by decide +kernel
theorem ml_Di_44 : rx_CS "GlassRoom$Distances" 44 q_Ha_highJ 1 := ⟨⟨(rx_s4 26 rfl rfl), (rx_s3 214 rfl rfl)⟩, ⟨(rx_s1 3 rfl rfl), q_Ha_highJ_k, ⟨by decide, by decide, by decide +kernel⟩, by decide⟩⟩
theorem d_Di_measure_53 : decode q_Di_measure.2.1 53 = .ok (.putfield 47, 3) := by decide +kernel
theorem fp_Di_47 : rx_FP "GlassRoom$Distances" 47 2 6 (.int) := ⟨(RX2, TX2, 10), tyX2, rfl, by decide, (rx_s1 217 rfl rfl), rx_T2, tyX2_ok, nmX2, rfl, rfl⟩
theorem d_Di_measure_56 : decode q_Di_measure.2.1 56 = .ok (.aload_n 0, 1) := by decide +kernel
theorem d_Di_measure_57 : decode q_Di_measure.2.1 57 = .ok (.getfield 32, 3) := by decide +kernel
theorem fl_Di_32 : rx_F "GlassRoom$Distances" 32 2 3 := ⟨(RX2, TX2, 10), rfl, by decide, (rx_s1 211 rfl rfl), rx_T2⟩
theorem d_Di_measure_60 : decode q_Di_measure.2.1 60 = .ok (.istore_n 3, 1) := by decide +kernel
theorem d_Di_measure_61 : decode q_Di_measure.2.1 61 = .ok (.iload_n 3, 1) := by decide +kernel
theorem d_Di_measure_62 : decode q_Di_measure.2.1 62 = .ok (.aload_n 0, 1) := by decide +kernel
theorem d_Di_measure_63 : decode q_Di_measure.2.1 63 = .ok (.getfield 37, 3) := by decide +kernel
theorem fl_Di_37 : rx_F "GlassRoom$Distances" 37 2 4 := ⟨(RX2, TX2, 10), rfl, by decide, (rx_s1 213 rfl rfl), rx_T2⟩
theorem d_Di_measure_66 : decode q_Di_measure.2.1 66 = .ok (.if_icmp .gt 55, 3) := by decide +kernel
theorem d_Di_measure_69 : decode q_Di_measure.2.1 69 = .ok (.iload_n 3, 1) := by decide +kernel
theorem d_Di_measure_70 : decode q_Di_measure.2.1 70 = .ok (.aload_n 0, 1) := by decide +kernel
theorem d_Di_measure_71 : decode q_Di_measure.2.1 71 = .ok (.getfield 18, 3) := by decide +kernel
theorem d_Di_measure_74 : decode q_Di_measure.2.1 74 = .ok (.getfield 49, 3) := by decide +kernel
theorem fl_Di_49 : rx_F "GlassRoom$Distances" 49 3 5 := ⟨(RX3, TX3, 9), rfl, by decide, (rx_s1 87 rfl rfl), rx_T3⟩
theorem d_Di_measure_77 : decode q_Di_measure.2.1 77 = .ok (.aload_n 0, 1) := by decide +kernel
theorem d_Di_measure_78 : decode q_Di_measure.2.1 78 = .ok (.getfield 18, 3) := by decide +kernel
theorem d_Di_measure_81 : decode q_Di_measure.2.1 81 = .ok (.getfield 52, 3) := by decide +kernel
theorem fl_Di_52 : rx_F "GlassRoom$Distances" 52 3 0 := ⟨(RX3, TX3, 9), rfl, by decide, (rx_s1 62 rfl rfl), rx_T3⟩
theorem d_Di_measure_84 : decode q_Di_measure.2.1 84 = .ok (.iload_n 1, 1) := by decide +kernel
theorem d_Di_measure_121 : decode q_Di_measure.2.1 121 = .ok (.aload_n 0, 1) := by decide +kernel
theorem d_Di_measure_122 : decode q_Di_measure.2.1 122 = .ok (.getfield 42, 3) := by decide +kernel
theorem fl_Di_42 : rx_F "GlassRoom$Distances" 42 2 5 := ⟨(RX2, TX2, 10), rfl, by decide, (rx_s1 215 rfl rfl), rx_T2⟩
theorem d_Di_measure_125 : decode q_Di_measure.2.1 125 = .ok (.istore_n 3, 1) := by decide +kernel
theorem d_Di_measure_85 : decode q_Di_measure.2.1 85 = .ok (.iaload, 1) := by decide +kernel
theorem d_Di_measure_86 : decode q_Di_measure.2.1 86 = .ok (.invokestatic 55, 3) := by decide +kernel
theorem ml_Di_55 : rx_CS "GlassRoom$Distances" 55 q_Ha_spot 3 := ⟨⟨(rx_s4 27 rfl rfl), (rx_s3 180 rfl rfl)⟩, ⟨(rx_s1 3 rfl rfl), q_Ha_spot_k, ⟨by decide, by decide, by decide +kernel⟩, by decide⟩⟩
theorem d_Di_measure_89 : decode q_Di_measure.2.1 89 = .ok (.aload_n 0, 1) := by decide +kernel
theorem d_Di_measure_90 : decode q_Di_measure.2.1 90 = .ok (.getfield 18, 3) := by decide +kernel
theorem d_Di_measure_93 : decode q_Di_measure.2.1 93 = .ok (.getfield 52, 3) := by decide +kernel
theorem d_Di_measure_96 : decode q_Di_measure.2.1 96 = .ok (.iload_n 2, 1) := by decide +kernel
theorem d_Di_measure_97 : decode q_Di_measure.2.1 97 = .ok (.iaload, 1) := by decide +kernel
theorem d_Di_measure_98 : decode q_Di_measure.2.1 98 = .ok (.isub, 1) := by decide +kernel
theorem d_Di_measure_99 : decode q_Di_measure.2.1 99 = .ok (.istore 4, 2) := by decide +kernel
theorem d_Di_measure_101 : decode q_Di_measure.2.1 101 = .ok (.aload_n 0, 1) := by decide +kernel
theorem d_Di_measure_102 : decode q_Di_measure.2.1 102 = .ok (.getfield 9, 3) := by decide +kernel
theorem d_Di_measure_105 : decode q_Di_measure.2.1 105 = .ok (.iload_n 3, 1) := by decide +kernel
theorem d_Di_measure_106 : decode q_Di_measure.2.1 106 = .ok (.bipush 10, 2) := by decide +kernel
theorem d_Di_measure_108 : decode q_Di_measure.2.1 108 = .ok (.iadd, 1) := by decide +kernel
theorem d_Di_measure_109 : decode q_Di_measure.2.1 109 = .ok (.iload 4, 2) := by decide +kernel
theorem d_Di_measure_111 : decode q_Di_measure.2.1 111 = .ok (.iload 4, 2) := by decide +kernel
theorem d_Di_measure_113 : decode q_Di_measure.2.1 113 = .ok (.imul, 1) := by decide +kernel
theorem d_Di_measure_114 : decode q_Di_measure.2.1 114 = .ok (.iastore, 1) := by decide +kernel
theorem d_Di_measure_115 : decode q_Di_measure.2.1 115 = .ok (.iinc 3 1, 3) := by decide +kernel
theorem d_Di_measure_118 : decode q_Di_measure.2.1 118 = .ok (.goto (-57), 3) := by decide +kernel
theorem d_Di_measure_126 : decode q_Di_measure.2.1 126 = .ok (.iload_n 3, 1) := by decide +kernel
theorem d_Di_measure_127 : decode q_Di_measure.2.1 127 = .ok (.aload_n 0, 1) := by decide +kernel
theorem d_Di_measure_128 : decode q_Di_measure.2.1 128 = .ok (.getfield 47, 3) := by decide +kernel
theorem fl_Di_47 : rx_F "GlassRoom$Distances" 47 2 6 := ⟨(RX2, TX2, 10), rfl, by decide, (rx_s1 217 rfl rfl), rx_T2⟩
theorem d_Di_measure_131 : decode q_Di_measure.2.1 131 = .ok (.if_icmp .gt 55, 3) := by decide +kernel
theorem d_Di_measure_134 : decode q_Di_measure.2.1 134 = .ok (.iload_n 3, 1) := by decide +kernel
theorem d_Di_measure_135 : decode q_Di_measure.2.1 135 = .ok (.aload_n 0, 1) := by decide +kernel
theorem d_Di_measure_136 : decode q_Di_measure.2.1 136 = .ok (.getfield 18, 3) := by decide +kernel
theorem d_Di_measure_139 : decode q_Di_measure.2.1 139 = .ok (.getfield 59, 3) := by decide +kernel
theorem fl_Di_59 : rx_F "GlassRoom$Distances" 59 3 6 := ⟨(RX3, TX3, 9), rfl, by decide, (rx_s1 95 rfl rfl), rx_T3⟩
theorem d_Di_measure_142 : decode q_Di_measure.2.1 142 = .ok (.aload_n 0, 1) := by decide +kernel
theorem d_Di_measure_143 : decode q_Di_measure.2.1 143 = .ok (.getfield 18, 3) := by decide +kernel
theorem d_Di_measure_146 : decode q_Di_measure.2.1 146 = .ok (.getfield 62, 3) := by decide +kernel
theorem fl_Di_62 : rx_F "GlassRoom$Distances" 62 3 1 := ⟨(RX3, TX3, 9), rfl, by decide, (rx_s1 70 rfl rfl), rx_T3⟩
theorem d_Di_measure_149 : decode q_Di_measure.2.1 149 = .ok (.iload_n 1, 1) := by decide +kernel
theorem d_Di_measure_186 : decode q_Di_measure.2.1 186 = .ok (.return_, 1) := by decide +kernel
theorem d_Di_measure_150 : decode q_Di_measure.2.1 150 = .ok (.iaload, 1) := by decide +kernel
theorem d_Di_measure_151 : decode q_Di_measure.2.1 151 = .ok (.invokestatic 55, 3) := by decide +kernel
theorem d_Di_measure_154 : decode q_Di_measure.2.1 154 = .ok (.aload_n 0, 1) := by decide +kernel
theorem d_Di_measure_155 : decode q_Di_measure.2.1 155 = .ok (.getfield 18, 3) := by decide +kernel
theorem d_Di_measure_158 : decode q_Di_measure.2.1 158 = .ok (.getfield 62, 3) := by decide +kernel
theorem d_Di_measure_161 : decode q_Di_measure.2.1 161 = .ok (.iload_n 2, 1) := by decide +kernel
theorem d_Di_measure_162 : decode q_Di_measure.2.1 162 = .ok (.iaload, 1) := by decide +kernel
theorem d_Di_measure_163 : decode q_Di_measure.2.1 163 = .ok (.isub, 1) := by decide +kernel
theorem d_Di_measure_164 : decode q_Di_measure.2.1 164 = .ok (.istore 4, 2) := by decide +kernel
theorem d_Di_measure_166 : decode q_Di_measure.2.1 166 = .ok (.aload_n 0, 1) := by decide +kernel
theorem d_Di_measure_167 : decode q_Di_measure.2.1 167 = .ok (.getfield 15, 3) := by decide +kernel
theorem d_Di_measure_170 : decode q_Di_measure.2.1 170 = .ok (.iload_n 3, 1) := by decide +kernel
theorem d_Di_measure_171 : decode q_Di_measure.2.1 171 = .ok (.bipush 10, 2) := by decide +kernel
theorem d_Di_measure_173 : decode q_Di_measure.2.1 173 = .ok (.iadd, 1) := by decide +kernel
theorem d_Di_measure_174 : decode q_Di_measure.2.1 174 = .ok (.iload 4, 2) := by decide +kernel
theorem d_Di_measure_176 : decode q_Di_measure.2.1 176 = .ok (.iload 4, 2) := by decide +kernel
theorem d_Di_measure_178 : decode q_Di_measure.2.1 178 = .ok (.imul, 1) := by decide +kernel
theorem d_Di_measure_179 : decode q_Di_measure.2.1 179 = .ok (.iastore, 1) := by decide +kernel
theorem d_Di_measure_180 : decode q_Di_measure.2.1 180 = .ok (.iinc 3 1, 3) := by decide +kernel
theorem d_Di_measure_183 : decode q_Di_measure.2.1 183 = .ok (.goto (-57), 3) := by decide +kernel
theorem d_Di_upTo_0 : decode q_Di_upTo.2.1 0 = .ok (.iconst 0, 1) := by decide +kernel
theorem d_Di_upTo_1 : decode q_Di_upTo.2.1 1 = .ok (.istore_n 2, 1) := by decide +kernel
theorem d_Di_upTo_2 : decode q_Di_upTo.2.1 2 = .ok (.aload_n 0, 1) := by decide +kernel
theorem d_Di_upTo_3 : decode q_Di_upTo.2.1 3 = .ok (.getfield 32, 3) := by decide +kernel
theorem d_Di_upTo_6 : decode q_Di_upTo.2.1 6 = .ok (.istore_n 3, 1) := by decide +kernel
theorem d_Di_upTo_7 : decode q_Di_upTo.2.1 7 = .ok (.iload_n 3, 1) := by decide +kernel
theorem d_Di_upTo_8 : decode q_Di_upTo.2.1 8 = .ok (.aload_n 0, 1) := by decide +kernel
theorem d_Di_upTo_9 : decode q_Di_upTo.2.1 9 = .ok (.getfield 37, 3) := by decide +kernel
theorem d_Di_upTo_12 : decode q_Di_upTo.2.1 12 = .ok (.if_icmp .gt 66, 3) := by decide +kernel
theorem d_Di_upTo_15 : decode q_Di_upTo.2.1 15 = .ok (.iload_n 1, 1) := by decide +kernel
theorem d_Di_upTo_16 : decode q_Di_upTo.2.1 16 = .ok (.aload_n 0, 1) := by decide +kernel
theorem d_Di_upTo_17 : decode q_Di_upTo.2.1 17 = .ok (.getfield 9, 3) := by decide +kernel
theorem d_Di_upTo_20 : decode q_Di_upTo.2.1 20 = .ok (.iload_n 3, 1) := by decide +kernel
theorem d_Di_upTo_21 : decode q_Di_upTo.2.1 21 = .ok (.bipush 10, 2) := by decide +kernel
theorem d_Di_upTo_23 : decode q_Di_upTo.2.1 23 = .ok (.iadd, 1) := by decide +kernel
theorem d_Di_upTo_78 : decode q_Di_upTo.2.1 78 = .ok (.iload_n 2, 1) := by decide +kernel
theorem d_Di_upTo_79 : decode q_Di_upTo.2.1 79 = .ok (.ireturn, 1) := by decide +kernel
theorem d_Di_upTo_24 : decode q_Di_upTo.2.1 24 = .ok (.iaload, 1) := by decide +kernel
theorem d_Di_upTo_25 : decode q_Di_upTo.2.1 25 = .ok (.isub, 1) := by decide +kernel
theorem d_Di_upTo_26 : decode q_Di_upTo.2.1 26 = .ok (.istore 4, 2) := by decide +kernel
theorem d_Di_upTo_28 : decode q_Di_upTo.2.1 28 = .ok (.iload 4, 2) := by decide +kernel
theorem d_Di_upTo_30 : decode q_Di_upTo.2.1 30 = .ok (.ifCond .lt 42, 3) := by decide +kernel
theorem d_Di_upTo_33 : decode q_Di_upTo.2.1 33 = .ok (.aload_n 0, 1) := by decide +kernel
theorem d_Di_upTo_34 : decode q_Di_upTo.2.1 34 = .ok (.getfield 42, 3) := by decide +kernel
theorem d_Di_upTo_37 : decode q_Di_upTo.2.1 37 = .ok (.istore 5, 2) := by decide +kernel
theorem d_Di_upTo_72 : decode q_Di_upTo.2.1 72 = .ok (.iinc 3 1, 3) := by decide +kernel
theorem d_Di_upTo_75 : decode q_Di_upTo.2.1 75 = .ok (.goto (-68), 3) := by decide +kernel
theorem d_Di_upTo_39 : decode q_Di_upTo.2.1 39 = .ok (.iload 5, 2) := by decide +kernel
theorem d_Di_upTo_41 : decode q_Di_upTo.2.1 41 = .ok (.aload_n 0, 1) := by decide +kernel
theorem d_Di_upTo_42 : decode q_Di_upTo.2.1 42 = .ok (.getfield 47, 3) := by decide +kernel
theorem d_Di_upTo_45 : decode q_Di_upTo.2.1 45 = .ok (.if_icmp .gt 27, 3) := by decide +kernel
theorem d_Di_upTo_48 : decode q_Di_upTo.2.1 48 = .ok (.aload_n 0, 1) := by decide +kernel
theorem d_Di_upTo_49 : decode q_Di_upTo.2.1 49 = .ok (.getfield 15, 3) := by decide +kernel
theorem d_Di_upTo_52 : decode q_Di_upTo.2.1 52 = .ok (.iload 5, 2) := by decide +kernel
theorem d_Di_upTo_54 : decode q_Di_upTo.2.1 54 = .ok (.bipush 10, 2) := by decide +kernel
theorem d_Di_upTo_56 : decode q_Di_upTo.2.1 56 = .ok (.iadd, 1) := by decide +kernel
theorem d_Di_upTo_57 : decode q_Di_upTo.2.1 57 = .ok (.iaload, 1) := by decide +kernel
theorem d_Di_upTo_58 : decode q_Di_upTo.2.1 58 = .ok (.iload 4, 2) := by decide +kernel
theorem d_Di_upTo_60 : decode q_Di_upTo.2.1 60 = .ok (.if_icmp .gt 6, 3) := by decide +kernel
theorem d_Di_upTo_63 : decode q_Di_upTo.2.1 63 = .ok (.iinc 2 1, 3) := by decide +kernel
theorem d_Di_upTo_66 : decode q_Di_upTo.2.1 66 = .ok (.iinc 5 1, 3) := by decide +kernel
theorem d_Di_upTo_69 : decode q_Di_upTo.2.1 69 = .ok (.goto (-30), 3) := by decide +kernel
theorem d_Ha_become_0 : decode q_Ha_become.2.1 0 = .ok (.aload_n 0, 1) := by decide +kernel
theorem d_Ha_become_1 : decode q_Ha_become.2.1 1 = .ok (.aload_n 1, 1) := by decide +kernel
theorem d_Ha_become_2 : decode q_Ha_become.2.1 2 = .ok (.getfield 24, 3) := by decide +kernel
theorem d_Ha_become_5 : decode q_Ha_become.2.1 5 = .ok (.putfield 24, 3) := by decide +kernel
theorem fp_Ha_24 : rx_FP "GlassRoom$Hall" 24 3 4 (.int) := ⟨(RX3, TX3, 9), tyX3, rfl, by decide, (rx_s1 80 rfl rfl), rx_T3, tyX3_ok, nmX3, rfl, rfl⟩
theorem d_Ha_become_8 : decode q_Ha_become.2.1 8 = .ok (.aload_n 0, 1) := by decide +kernel
theorem d_Ha_become_9 : decode q_Ha_become.2.1 9 = .ok (.aload_n 1, 1) := by decide +kernel
theorem d_Ha_become_10 : decode q_Ha_become.2.1 10 = .ok (.getfield 28, 3) := by decide +kernel
theorem d_Ha_become_13 : decode q_Ha_become.2.1 13 = .ok (.putfield 28, 3) := by decide +kernel
theorem fp_Ha_28 : rx_FP "GlassRoom$Hall" 28 3 5 (.int) := ⟨(RX3, TX3, 9), tyX3, rfl, by decide, (rx_s1 88 rfl rfl), rx_T3, tyX3_ok, nmX3, rfl, rfl⟩
theorem d_Ha_become_16 : decode q_Ha_become.2.1 16 = .ok (.aload_n 0, 1) := by decide +kernel
theorem d_Ha_become_17 : decode q_Ha_become.2.1 17 = .ok (.aload_n 1, 1) := by decide +kernel
theorem d_Ha_become_18 : decode q_Ha_become.2.1 18 = .ok (.getfield 31, 3) := by decide +kernel
theorem d_Ha_become_21 : decode q_Ha_become.2.1 21 = .ok (.putfield 31, 3) := by decide +kernel
theorem fp_Ha_31 : rx_FP "GlassRoom$Hall" 31 3 6 (.int) := ⟨(RX3, TX3, 9), tyX3, rfl, by decide, (rx_s1 96 rfl rfl), rx_T3, tyX3_ok, nmX3, rfl, rfl⟩
theorem d_Ha_become_24 : decode q_Ha_become.2.1 24 = .ok (.aload_n 0, 1) := by decide +kernel
theorem d_Ha_become_25 : decode q_Ha_become.2.1 25 = .ok (.aload_n 1, 1) := by decide +kernel
theorem d_Ha_become_26 : decode q_Ha_become.2.1 26 = .ok (.getfield 34, 3) := by decide +kernel
theorem fl_Ha_34 : rx_F "GlassRoom$Hall" 34 3 7 := ⟨(RX3, TX3, 9), rfl, by decide, (rx_s1 104 rfl rfl), rx_T3⟩
theorem d_Ha_become_29 : decode q_Ha_become.2.1 29 = .ok (.putfield 34, 3) := by decide +kernel
theorem fp_Ha_34 : rx_FP "GlassRoom$Hall" 34 3 7 (.int) := ⟨(RX3, TX3, 9), tyX3, rfl, by decide, (rx_s1 104 rfl rfl), rx_T3, tyX3_ok, nmX3, rfl, rfl⟩
theorem d_Ha_become_32 : decode q_Ha_become.2.1 32 = .ok (.aload_n 0, 1) := by decide +kernel
theorem d_Ha_become_33 : decode q_Ha_become.2.1 33 = .ok (.aload_n 1, 1) := by decide +kernel
theorem d_Ha_become_34 : decode q_Ha_become.2.1 34 = .ok (.getfield 37, 3) := by decide +kernel
theorem fl_Ha_37 : rx_F "GlassRoom$Hall" 37 3 8 := ⟨(RX3, TX3, 9), rfl, by decide, (rx_s1 107 rfl rfl), rx_T3⟩
theorem d_Ha_become_37 : decode q_Ha_become.2.1 37 = .ok (.putfield 37, 3) := by decide +kernel
theorem fp_Ha_37 : rx_FP "GlassRoom$Hall" 37 3 8 (.int) := ⟨(RX3, TX3, 9), tyX3, rfl, by decide, (rx_s1 107 rfl rfl), rx_T3, tyX3_ok, nmX3, rfl, rfl⟩
theorem d_Ha_become_40 : decode q_Ha_become.2.1 40 = .ok (.iconst 0, 1) := by decide +kernel
theorem d_Ha_become_41 : decode q_Ha_become.2.1 41 = .ok (.istore_n 2, 1) := by decide +kernel
theorem d_Ha_become_42 : decode q_Ha_become.2.1 42 = .ok (.iload_n 2, 1) := by decide +kernel
theorem d_Ha_become_43 : decode q_Ha_become.2.1 43 = .ok (.bipush 6, 2) := by decide +kernel
theorem d_Ha_become_45 : decode q_Ha_become.2.1 45 = .ok (.if_icmp .ge 45, 3) := by decide +kernel
theorem d_Ha_become_48 : decode q_Ha_become.2.1 48 = .ok (.aload_n 0, 1) := by decide +kernel
theorem d_Ha_become_49 : decode q_Ha_become.2.1 49 = .ok (.getfield 9, 3) := by decide +kernel
theorem d_Ha_become_52 : decode q_Ha_become.2.1 52 = .ok (.iload_n 2, 1) := by decide +kernel
theorem d_Ha_become_53 : decode q_Ha_become.2.1 53 = .ok (.aload_n 1, 1) := by decide +kernel
theorem d_Ha_become_54 : decode q_Ha_become.2.1 54 = .ok (.getfield 9, 3) := by decide +kernel
theorem d_Ha_become_57 : decode q_Ha_become.2.1 57 = .ok (.iload_n 2, 1) := by decide +kernel
theorem d_Ha_become_90 : decode q_Ha_become.2.1 90 = .ok (.ldc 40, 2) := by decide +kernel
theorem ck_Ha_40 : Cond.constant "GlassRoom$Hall" 40 (1000000) ∈ rx_gw := (rx_s3 119 rfl rfl)
theorem d_Ha_become_92 : decode q_Ha_become.2.1 92 = .ok (.istore_n 2, 1) := by decide +kernel
theorem d_Ha_become_93 : decode q_Ha_become.2.1 93 = .ok (.iconst 0, 1) := by decide +kernel
theorem d_Ha_become_94 : decode q_Ha_become.2.1 94 = .ok (.istore_n 3, 1) := by decide +kernel
theorem d_Ha_become_58 : decode q_Ha_become.2.1 58 = .ok (.iaload, 1) := by decide +kernel
theorem d_Ha_become_59 : decode q_Ha_become.2.1 59 = .ok (.iastore, 1) := by decide +kernel
theorem d_Ha_become_60 : decode q_Ha_become.2.1 60 = .ok (.aload_n 0, 1) := by decide +kernel
theorem d_Ha_become_61 : decode q_Ha_become.2.1 61 = .ok (.getfield 15, 3) := by decide +kernel
theorem d_Ha_become_64 : decode q_Ha_become.2.1 64 = .ok (.iload_n 2, 1) := by decide +kernel
theorem d_Ha_become_65 : decode q_Ha_become.2.1 65 = .ok (.aload_n 1, 1) := by decide +kernel
theorem d_Ha_become_66 : decode q_Ha_become.2.1 66 = .ok (.getfield 15, 3) := by decide +kernel
theorem d_Ha_become_69 : decode q_Ha_become.2.1 69 = .ok (.iload_n 2, 1) := by decide +kernel
theorem d_Ha_become_70 : decode q_Ha_become.2.1 70 = .ok (.iaload, 1) := by decide +kernel
theorem d_Ha_become_71 : decode q_Ha_become.2.1 71 = .ok (.iastore, 1) := by decide +kernel
theorem d_Ha_become_72 : decode q_Ha_become.2.1 72 = .ok (.aload_n 0, 1) := by decide +kernel
theorem d_Ha_become_73 : decode q_Ha_become.2.1 73 = .ok (.getfield 18, 3) := by decide +kernel
theorem fl_Ha_18 : rx_F "GlassRoom$Hall" 18 3 2 := ⟨(RX3, TX3, 9), rfl, by decide, (rx_s1 76 rfl rfl), rx_T3⟩
theorem d_Ha_become_76 : decode q_Ha_become.2.1 76 = .ok (.iload_n 2, 1) := by decide +kernel
theorem d_Ha_become_77 : decode q_Ha_become.2.1 77 = .ok (.aload_n 1, 1) := by decide +kernel
theorem d_Ha_become_78 : decode q_Ha_become.2.1 78 = .ok (.getfield 18, 3) := by decide +kernel
theorem d_Ha_become_81 : decode q_Ha_become.2.1 81 = .ok (.iload_n 2, 1) := by decide +kernel
theorem d_Ha_become_82 : decode q_Ha_become.2.1 82 = .ok (.iaload, 1) := by decide +kernel
theorem d_Ha_become_83 : decode q_Ha_become.2.1 83 = .ok (.iastore, 1) := by decide +kernel
theorem d_Ha_become_84 : decode q_Ha_become.2.1 84 = .ok (.iinc 2 1, 3) := by decide +kernel
theorem d_Ha_become_87 : decode q_Ha_become.2.1 87 = .ok (.goto (-45), 3) := by decide +kernel
theorem d_Ha_become_95 : decode q_Ha_become.2.1 95 = .ok (.iload_n 3, 1) := by decide +kernel
theorem d_Ha_become_96 : decode q_Ha_become.2.1 96 = .ok (.aload_n 0, 1) := by decide +kernel
theorem d_Ha_become_97 : decode q_Ha_become.2.1 97 = .ok (.getfield 21, 3) := by decide +kernel
theorem d_Ha_become_100 : decode q_Ha_become.2.1 100 = .ok (.arraylength, 1) := by decide +kernel
theorem d_Ha_become_101 : decode q_Ha_become.2.1 101 = .ok (.if_icmp .ge 29, 3) := by decide +kernel
theorem d_Ha_become_104 : decode q_Ha_become.2.1 104 = .ok (.aload_n 0, 1) := by decide +kernel
theorem d_Ha_become_105 : decode q_Ha_become.2.1 105 = .ok (.getfield 21, 3) := by decide +kernel
theorem d_Ha_become_108 : decode q_Ha_become.2.1 108 = .ok (.iload_n 3, 1) := by decide +kernel
theorem d_Ha_become_109 : decode q_Ha_become.2.1 109 = .ok (.iload_n 2, 1) := by decide +kernel
theorem d_Ha_become_130 : decode q_Ha_become.2.1 130 = .ok (.return_, 1) := by decide +kernel
theorem d_Ha_become_110 : decode q_Ha_become.2.1 110 = .ok (.iastore, 1) := by decide +kernel
theorem d_Ha_become_111 : decode q_Ha_become.2.1 111 = .ok (.iload_n 2, 1) := by decide +kernel
theorem d_Ha_become_112 : decode q_Ha_become.2.1 112 = .ok (.bipush 100, 2) := by decide +kernel
theorem d_Ha_become_114 : decode q_Ha_become.2.1 114 = .ok (.aload_n 0, 1) := by decide +kernel
theorem d_Ha_become_115 : decode q_Ha_become.2.1 115 = .ok (.getfield 37, 3) := by decide +kernel
theorem d_Ha_become_118 : decode q_Ha_become.2.1 118 = .ok (.isub, 1) := by decide +kernel
theorem d_Ha_become_119 : decode q_Ha_become.2.1 119 = .ok (.imul, 1) := by decide +kernel
theorem d_Ha_become_120 : decode q_Ha_become.2.1 120 = .ok (.bipush 100, 2) := by decide +kernel
theorem d_Ha_become_122 : decode q_Ha_become.2.1 122 = .ok (.idiv, 1) := by decide +kernel
theorem d_Ha_become_123 : decode q_Ha_become.2.1 123 = .ok (.istore_n 2, 1) := by decide +kernel
theorem d_Ha_become_124 : decode q_Ha_become.2.1 124 = .ok (.iinc 3 1, 3) := by decide +kernel
theorem d_Ha_become_127 : decode q_Ha_become.2.1 127 = .ok (.goto (-32), 3) := by decide +kernel
theorem d_Ha_writeTo_0 : decode q_Ha_writeTo.2.1 0 = .ok (.iload_n 2, 1) := by decide +kernel
theorem d_Ha_writeTo_1 : decode q_Ha_writeTo.2.1 1 = .ok (.ifCond .lt 12, 3) := by decide +kernel
theorem d_Ha_writeTo_13 : decode q_Ha_writeTo.2.1 13 = .ok (.return_, 1) := by decide +kernel
theorem d_Ha_writeTo_4 : decode q_Ha_writeTo.2.1 4 = .ok (.iload_n 2, 1) := by decide +kernel
theorem d_Ha_writeTo_5 : decode q_Ha_writeTo.2.1 5 = .ok (.bipush 13, 2) := by decide +kernel
theorem d_Ha_writeTo_7 : decode q_Ha_writeTo.2.1 7 = .ok (.iadd, 1) := by decide +kernel
theorem d_Ha_writeTo_8 : decode q_Ha_writeTo.2.1 8 = .ok (.aload_n 1, 1) := by decide +kernel
theorem d_Ha_writeTo_9 : decode q_Ha_writeTo.2.1 9 = .ok (.arraylength, 1) := by decide +kernel
theorem al_520 : Int32.ofNat 520 = (520 : Int32) := by decide
theorem d_Ha_writeTo_10 : decode q_Ha_writeTo.2.1 10 = .ok (.if_icmp .le 4, 3) := by decide +kernel
theorem d_Ha_writeTo_14 : decode q_Ha_writeTo.2.1 14 = .ok (.iconst 0, 1) := by decide +kernel
theorem d_Ha_writeTo_15 : decode q_Ha_writeTo.2.1 15 = .ok (.istore_n 3, 1) := by decide +kernel
theorem d_Ha_writeTo_16 : decode q_Ha_writeTo.2.1 16 = .ok (.iload_n 3, 1) := by decide +kernel
theorem d_Ha_writeTo_17 : decode q_Ha_writeTo.2.1 17 = .ok (.bipush 6, 2) := by decide +kernel
theorem d_Ha_writeTo_19 : decode q_Ha_writeTo.2.1 19 = .ok (.if_icmp .ge 37, 3) := by decide +kernel
theorem d_Ha_writeTo_22 : decode q_Ha_writeTo.2.1 22 = .ok (.aload_n 1, 1) := by decide +kernel
theorem d_Ha_writeTo_23 : decode q_Ha_writeTo.2.1 23 = .ok (.iload_n 2, 1) := by decide +kernel
theorem d_Ha_writeTo_24 : decode q_Ha_writeTo.2.1 24 = .ok (.iconst 2, 1) := by decide +kernel
theorem d_Ha_writeTo_25 : decode q_Ha_writeTo.2.1 25 = .ok (.iload_n 3, 1) := by decide +kernel
theorem d_Ha_writeTo_26 : decode q_Ha_writeTo.2.1 26 = .ok (.imul, 1) := by decide +kernel
theorem d_Ha_writeTo_27 : decode q_Ha_writeTo.2.1 27 = .ok (.iadd, 1) := by decide +kernel
theorem d_Ha_writeTo_28 : decode q_Ha_writeTo.2.1 28 = .ok (.aload_n 0, 1) := by decide +kernel
theorem d_Ha_writeTo_29 : decode q_Ha_writeTo.2.1 29 = .ok (.getfield 9, 3) := by decide +kernel
theorem d_Ha_writeTo_32 : decode q_Ha_writeTo.2.1 32 = .ok (.iload_n 3, 1) := by decide +kernel
theorem d_Ha_writeTo_56 : decode q_Ha_writeTo.2.1 56 = .ok (.aload_n 1, 1) := by decide +kernel
theorem d_Ha_writeTo_57 : decode q_Ha_writeTo.2.1 57 = .ok (.iload_n 2, 1) := by decide +kernel
theorem d_Ha_writeTo_58 : decode q_Ha_writeTo.2.1 58 = .ok (.bipush 13, 2) := by decide +kernel
theorem d_Ha_writeTo_60 : decode q_Ha_writeTo.2.1 60 = .ok (.iadd, 1) := by decide +kernel
theorem d_Ha_writeTo_61 : decode q_Ha_writeTo.2.1 61 = .ok (.iconst 1, 1) := by decide +kernel
theorem d_Ha_writeTo_62 : decode q_Ha_writeTo.2.1 62 = .ok (.isub, 1) := by decide +kernel
theorem d_Ha_writeTo_63 : decode q_Ha_writeTo.2.1 63 = .ok (.aload_n 0, 1) := by decide +kernel
theorem d_Ha_writeTo_64 : decode q_Ha_writeTo.2.1 64 = .ok (.getfield 34, 3) := by decide +kernel
theorem d_Ha_writeTo_67 : decode q_Ha_writeTo.2.1 67 = .ok (.iastore, 1) := by decide +kernel
theorem d_Ha_writeTo_68 : decode q_Ha_writeTo.2.1 68 = .ok (.return_, 1) := by decide +kernel
theorem d_Ha_writeTo_33 : decode q_Ha_writeTo.2.1 33 = .ok (.iaload, 1) := by decide +kernel
theorem d_Ha_writeTo_34 : decode q_Ha_writeTo.2.1 34 = .ok (.iastore, 1) := by decide +kernel
theorem d_Ha_writeTo_35 : decode q_Ha_writeTo.2.1 35 = .ok (.aload_n 1, 1) := by decide +kernel
theorem d_Ha_writeTo_36 : decode q_Ha_writeTo.2.1 36 = .ok (.iload_n 2, 1) := by decide +kernel
theorem d_Ha_writeTo_37 : decode q_Ha_writeTo.2.1 37 = .ok (.iconst 2, 1) := by decide +kernel
theorem d_Ha_writeTo_38 : decode q_Ha_writeTo.2.1 38 = .ok (.iload_n 3, 1) := by decide +kernel
theorem d_Ha_writeTo_39 : decode q_Ha_writeTo.2.1 39 = .ok (.imul, 1) := by decide +kernel
theorem d_Ha_writeTo_40 : decode q_Ha_writeTo.2.1 40 = .ok (.iadd, 1) := by decide +kernel
theorem d_Ha_writeTo_41 : decode q_Ha_writeTo.2.1 41 = .ok (.iconst 1, 1) := by decide +kernel
theorem d_Ha_writeTo_42 : decode q_Ha_writeTo.2.1 42 = .ok (.iadd, 1) := by decide +kernel
theorem d_Ha_writeTo_43 : decode q_Ha_writeTo.2.1 43 = .ok (.aload_n 0, 1) := by decide +kernel
theorem d_Ha_writeTo_44 : decode q_Ha_writeTo.2.1 44 = .ok (.getfield 15, 3) := by decide +kernel
theorem d_Ha_writeTo_47 : decode q_Ha_writeTo.2.1 47 = .ok (.iload_n 3, 1) := by decide +kernel
theorem d_Ha_writeTo_48 : decode q_Ha_writeTo.2.1 48 = .ok (.iaload, 1) := by decide +kernel
theorem d_Ha_writeTo_49 : decode q_Ha_writeTo.2.1 49 = .ok (.iastore, 1) := by decide +kernel
theorem d_Ha_writeTo_50 : decode q_Ha_writeTo.2.1 50 = .ok (.iinc 3 1, 3) := by decide +kernel
theorem d_Ha_writeTo_53 : decode q_Ha_writeTo.2.1 53 = .ok (.goto (-37), 3) := by decide +kernel
theorem al_13 : Int32.ofNat 13 = (13 : Int32) := by decide
theorem d_Ha_readFrom_0 : decode q_Ha_readFrom.2.1 0 = .ok (.iload_n 2, 1) := by decide +kernel
theorem d_Ha_readFrom_1 : decode q_Ha_readFrom.2.1 1 = .ok (.ifCond .lt 12, 3) := by decide +kernel
theorem d_Ha_readFrom_13 : decode q_Ha_readFrom.2.1 13 = .ok (.return_, 1) := by decide +kernel
theorem d_Ha_readFrom_4 : decode q_Ha_readFrom.2.1 4 = .ok (.iload_n 2, 1) := by decide +kernel
theorem d_Ha_readFrom_5 : decode q_Ha_readFrom.2.1 5 = .ok (.bipush 13, 2) := by decide +kernel
theorem d_Ha_readFrom_7 : decode q_Ha_readFrom.2.1 7 = .ok (.iadd, 1) := by decide +kernel
theorem d_Ha_readFrom_8 : decode q_Ha_readFrom.2.1 8 = .ok (.aload_n 1, 1) := by decide +kernel
theorem d_Ha_readFrom_9 : decode q_Ha_readFrom.2.1 9 = .ok (.arraylength, 1) := by decide +kernel
theorem d_Ha_readFrom_10 : decode q_Ha_readFrom.2.1 10 = .ok (.if_icmp .le 4, 3) := by decide +kernel
theorem d_Ha_readFrom_14 : decode q_Ha_readFrom.2.1 14 = .ok (.iconst 0, 1) := by decide +kernel
theorem d_Ha_readFrom_15 : decode q_Ha_readFrom.2.1 15 = .ok (.istore_n 3, 1) := by decide +kernel
theorem d_Ha_readFrom_16 : decode q_Ha_readFrom.2.1 16 = .ok (.iload_n 3, 1) := by decide +kernel
theorem d_Ha_readFrom_17 : decode q_Ha_readFrom.2.1 17 = .ok (.bipush 6, 2) := by decide +kernel
theorem d_Ha_readFrom_19 : decode q_Ha_readFrom.2.1 19 = .ok (.if_icmp .ge 37, 3) := by decide +kernel
theorem d_Ha_readFrom_22 : decode q_Ha_readFrom.2.1 22 = .ok (.aload_n 0, 1) := by decide +kernel
theorem d_Ha_readFrom_23 : decode q_Ha_readFrom.2.1 23 = .ok (.getfield 9, 3) := by decide +kernel
theorem d_Ha_readFrom_26 : decode q_Ha_readFrom.2.1 26 = .ok (.iload_n 3, 1) := by decide +kernel
theorem d_Ha_readFrom_27 : decode q_Ha_readFrom.2.1 27 = .ok (.aload_n 1, 1) := by decide +kernel
theorem d_Ha_readFrom_28 : decode q_Ha_readFrom.2.1 28 = .ok (.iload_n 2, 1) := by decide +kernel
theorem d_Ha_readFrom_29 : decode q_Ha_readFrom.2.1 29 = .ok (.iconst 2, 1) := by decide +kernel
theorem d_Ha_readFrom_30 : decode q_Ha_readFrom.2.1 30 = .ok (.iload_n 3, 1) := by decide +kernel
theorem d_Ha_readFrom_31 : decode q_Ha_readFrom.2.1 31 = .ok (.imul, 1) := by decide +kernel
theorem d_Ha_readFrom_32 : decode q_Ha_readFrom.2.1 32 = .ok (.iadd, 1) := by decide +kernel
theorem d_Ha_readFrom_56 : decode q_Ha_readFrom.2.1 56 = .ok (.aload_n 0, 1) := by decide +kernel
theorem d_Ha_readFrom_57 : decode q_Ha_readFrom.2.1 57 = .ok (.aload_n 1, 1) := by decide +kernel
theorem d_Ha_readFrom_58 : decode q_Ha_readFrom.2.1 58 = .ok (.iload_n 2, 1) := by decide +kernel
theorem d_Ha_readFrom_59 : decode q_Ha_readFrom.2.1 59 = .ok (.bipush 13, 2) := by decide +kernel
theorem d_Ha_readFrom_61 : decode q_Ha_readFrom.2.1 61 = .ok (.iadd, 1) := by decide +kernel
theorem d_Ha_readFrom_62 : decode q_Ha_readFrom.2.1 62 = .ok (.iconst 1, 1) := by decide +kernel
theorem d_Ha_readFrom_63 : decode q_Ha_readFrom.2.1 63 = .ok (.isub, 1) := by decide +kernel
theorem d_Ha_readFrom_64 : decode q_Ha_readFrom.2.1 64 = .ok (.iaload, 1) := by decide +kernel
theorem d_Ha_readFrom_65 : decode q_Ha_readFrom.2.1 65 = .ok (.putfield 34, 3) := by decide +kernel
theorem d_Ha_readFrom_68 : decode q_Ha_readFrom.2.1 68 = .ok (.return_, 1) := by decide +kernel
theorem d_Ha_readFrom_33 : decode q_Ha_readFrom.2.1 33 = .ok (.iaload, 1) := by decide +kernel
theorem d_Ha_readFrom_34 : decode q_Ha_readFrom.2.1 34 = .ok (.iastore, 1) := by decide +kernel
theorem d_Ha_readFrom_35 : decode q_Ha_readFrom.2.1 35 = .ok (.aload_n 0, 1) := by decide +kernel
theorem d_Ha_readFrom_36 : decode q_Ha_readFrom.2.1 36 = .ok (.getfield 15, 3) := by decide +kernel
theorem d_Ha_readFrom_39 : decode q_Ha_readFrom.2.1 39 = .ok (.iload_n 3, 1) := by decide +kernel
theorem d_Ha_readFrom_40 : decode q_Ha_readFrom.2.1 40 = .ok (.aload_n 1, 1) := by decide +kernel
theorem d_Ha_readFrom_41 : decode q_Ha_readFrom.2.1 41 = .ok (.iload_n 2, 1) := by decide +kernel
theorem d_Ha_readFrom_42 : decode q_Ha_readFrom.2.1 42 = .ok (.iconst 2, 1) := by decide +kernel
theorem d_Ha_readFrom_43 : decode q_Ha_readFrom.2.1 43 = .ok (.iload_n 3, 1) := by decide +kernel
theorem d_Ha_readFrom_44 : decode q_Ha_readFrom.2.1 44 = .ok (.imul, 1) := by decide +kernel
theorem d_Ha_readFrom_45 : decode q_Ha_readFrom.2.1 45 = .ok (.iadd, 1) := by decide +kernel
theorem d_Ha_readFrom_46 : decode q_Ha_readFrom.2.1 46 = .ok (.iconst 1, 1) := by decide +kernel
theorem d_Ha_readFrom_47 : decode q_Ha_readFrom.2.1 47 = .ok (.iadd, 1) := by decide +kernel
theorem d_Ha_readFrom_48 : decode q_Ha_readFrom.2.1 48 = .ok (.iaload, 1) := by decide +kernel
theorem d_Ha_readFrom_49 : decode q_Ha_readFrom.2.1 49 = .ok (.iastore, 1) := by decide +kernel
theorem d_Ha_readFrom_50 : decode q_Ha_readFrom.2.1 50 = .ok (.iinc 3 1, 3) := by decide +kernel
theorem d_Ha_readFrom_53 : decode q_Ha_readFrom.2.1 53 = .ok (.goto (-37), 3) := by decide +kernel
set_option maxHeartbeats 4000000 in
set_option maxRecDepth 20000 in
theorem w_Ta_signsIn {Ω : rx_Om} {G : rx_Gh} {hp : rx_Hp} {F : Int32 → rx_Hp → Prop} (a1 : Int32) (H : Rn Ω G 1 q_Ta_signsIn 5 [some (.int a1), some (.int 0), some (.int 24)] [] hp (rI F)) : Ev Ω G 1 q_Ta_signsIn [.int a1] hp (rI F) := by
  refine ev_of rfl (Nat.le_of_ble_eq_true rfl) rfl ?_
  show Rn Ω G 1 q_Ta_signsIn 0 [some (.int a1), none, none] [] hp (rI F)
  refine r_iconst d_Ta_signsIn_0 ic_0 ?_
  refine r_istore_n (i := 1) (lz := [some (.int a1), some (.int 0), none]) d_Ta_signsIn_1 rfl (by decide) rfl rfl ?_
  refine r_bipush d_Ta_signsIn_2 bp_24 ?_
  refine r_istore_n (i := 2) (lz := [some (.int a1), some (.int 0), some (.int 24)]) d_Ta_signsIn_4 rfl (by decide) rfl rfl ?_
  exact H
set_option maxHeartbeats 4000000 in
set_option maxRecDepth 20000 in
theorem w_Ta_signsIn_5 {Ω : rx_Om} {G : rx_Gh} {hp : rx_Hp} {F : Int32 → rx_Hp → Prop} (x0 : Int32) (x1 : Int32) (x2 : Int32) (H : (x2 < 0 → F x1 hp) ∧ (¬ x2 < 0 → Rn Ω G 1 q_Ta_signsIn 5 [some (.int x0), some (.int ((if (((x0.toUInt32 >>> (x2.toUInt32 &&& Int32.toUInt32 31)).toInt32) &&& 255) = 0 then x1 else (x1 + 1)) : Int32)), some (.int (x2 + (-8)))] [] hp (rI F))) : Rn Ω G 1 q_Ta_signsIn 5 [some (.int x0), some (.int x1), some (.int x2)] [] hp (rI F) := by
  refine r_iload_n (i := 2) d_Ta_signsIn_5 rfl rfl ?_
  refine r_if_lt (tgt := 28) d_Ta_signsIn_6 (by decide) (fun hc_6 => ?_) (fun hc_6 => ?_)
  · replace H := H.1 hc_6
    refine r_iload_n (i := 1) d_Ta_signsIn_28 rfl rfl ?_
    exact rI_ret d_Ta_signsIn_29 rfl H
  · replace H := H.2 hc_6
    have J16 : ∀ (v16_0 : Int32), v16_0 = ((if (((x0.toUInt32 >>> (x2.toUInt32 &&& Int32.toUInt32 31)).toInt32) &&& 255) = 0 then x1 else (x1 + 1)) : Int32) → Rn Ω G 1 q_Ta_signsIn 22 [some (.int x0), some (.int v16_0), some (.int x2)] [] hp (rI F) := by
      rintro _ rfl
      refine r_iinc (v := x2 + (-8)) (lz := [some (.int x0), some (.int ((if (((x0.toUInt32 >>> (x2.toUInt32 &&& Int32.toUInt32 31)).toInt32) &&& 255) = 0 then x1 else (x1 + 1)) : Int32)), some (.int (x2 + (-8)))]) d_Ta_signsIn_22 rfl (by rw [ic_m8]) (by decide) rfl rfl ?_
      refine r_goto (tgt := 5) d_Ta_signsIn_25 (by decide) ?_
      exact H
    refine r_iload_n (i := 0) d_Ta_signsIn_9 rfl rfl ?_
    refine r_iload_n (i := 2) d_Ta_signsIn_10 rfl rfl ?_
    refine r_iushr d_Ta_signsIn_11 ?_
    refine r_sipush d_Ta_signsIn_12 sp_255 ?_
    refine r_iand d_Ta_signsIn_15 ?_
    refine r_if_eq (tgt := 22) d_Ta_signsIn_16 (by decide) (fun hc_16 => ?_) (fun hc_16 => ?_)
    · exact J16 _ (((if_pos hc_16).trans rfl)).symm
    · refine r_iinc (v := x1 + 1) (lz := [some (.int x0), some (.int (x1 + 1)), some (.int x2)]) d_Ta_signsIn_19 rfl (by rw [ic_1]) (by decide) rfl rfl ?_
      exact J16 _ (((if_neg hc_16).trans rfl)).symm
set_option maxHeartbeats 4000000 in
set_option maxRecDepth 20000 in
theorem w_Ta_add {G : rx_Gh} {hp : rx_Hp} {F : rx_Hp → Prop} (a1 : Int32) (H : Rn wC G 1 q_Ta_add 3 [some (.ref 1), some (.int a1), some (.int 24), none] [] hp (rV F)) : Ev wC G 1 q_Ta_add [.ref 1, .int a1] hp (rV F) := by
  refine ev_of rfl (Nat.le_of_ble_eq_true rfl) rfl ?_
  show Rn wC G 1 q_Ta_add 0 [some (.ref 1), some (.int a1), none, none] [] hp (rV F)
  refine r_bipush d_Ta_add_0 bp_24 ?_
  refine r_istore_n (i := 2) (lz := [some (.ref 1), some (.int a1), some (.int 24), none]) d_Ta_add_2 rfl (by decide) rfl rfl ?_
  exact H
set_option maxHeartbeats 4000000 in
set_option maxRecDepth 20000 in
theorem w_Ta_add_3 {G : rx_Gh} {hp : rx_Hp} {F : rx_Hp → Prop} (x1 : Int32) (x2 : Int32) (H : (x2 < 0 → F hp) ∧ (¬ x2 < 0 → ((((x1.toUInt32 >>> (x2.toUInt32 &&& Int32.toUInt32 31)).toInt32) &&& 255) = 0 → Rn wC G 1 q_Ta_add 3 [some (.ref 1), some (.int x1), some (.int (x2 + (-8))), none] [] hp (rV F)) ∧ (¬ (((x1.toUInt32 >>> (x2.toUInt32 &&& Int32.toUInt32 31)).toInt32) &&& 255) = 0 → (160 ≤ (hp.1 1 1) → Rn wC G 1 q_Ta_add 3 [some (.ref 1), some (.int x1), some (.int (x2 + (-8))), none] [] hp (rV F)) ∧ (¬ 160 ≤ (hp.1 1 1) → vp_in (hp.1 1 1) 160 ∧ (Rn wC G 1 q_Ta_add 3 [some (.ref 1), some (.int x1), some (.int (x2 + (-8))), none] [] (rx_pf (rx_pa hp 2 ((hp.1 1 1).toNatClampNeg) (((x1.toUInt32 >>> (x2.toUInt32 &&& Int32.toUInt32 31)).toInt32) &&& 255)) 1 1 ((hp.1 1 1) + 1)) (rV F)))))) : Rn wC G 1 q_Ta_add 3 [some (.ref 1), some (.int x1), some (.int x2), none] [] hp (rV F) := by
  refine r_iload_n (i := 2) d_Ta_add_3 rfl rfl ?_
  refine r_if_lt (tgt := 57) d_Ta_add_4 (by decide) (fun hc_4 => ?_) (fun hc_4 => ?_)
  · replace H := H.1 hc_4
    exact rV_ret d_Ta_add_57 rfl H
  · replace H := H.2 hc_4
    refine r_iload_n (i := 1) d_Ta_add_7 rfl rfl ?_
    refine r_iload_n (i := 2) d_Ta_add_8 rfl rfl ?_
    refine r_iushr d_Ta_add_9 ?_
    refine r_sipush d_Ta_add_10 sp_255 ?_
    refine r_iand d_Ta_add_13 ?_
    refine r_istore_n (i := 3) (lz := [some (.ref 1), some (.int x1), some (.int x2), some (.int (((x1.toUInt32 >>> (x2.toUInt32 &&& Int32.toUInt32 31)).toInt32) &&& 255))]) d_Ta_add_14 rfl (by decide) rfl rfl ?_
    refine r_iload_n (i := 3) d_Ta_add_15 rfl rfl ?_
    refine r_if_eq (tgt := 51) d_Ta_add_16 (by decide) (fun hc_16 => ?_) (fun hc_16 => ?_)
    · replace H := H.1 hc_16
      refine r_iinc (v := x2 + (-8)) (lz := [some (.ref 1), some (.int x1), some (.int (x2 + (-8))), some (.int (((x1.toUInt32 >>> (x2.toUInt32 &&& Int32.toUInt32 31)).toInt32) &&& 255))]) d_Ta_add_51 rfl (by rw [ic_m8]) (by decide) rfl rfl ?_
      refine r_goto (tgt := 3) d_Ta_add_54 (by decide) ?_
      exact rx_fgt [false, false, false, true] H
    · replace H := H.2 hc_16
      refine r_aload_n (i := 0) d_Ta_add_19 rfl rfl ?_
      refine r_getI (b := 1) (v := hp.1 1 1) d_Ta_add_20 fl_Ta_15 (by decide) rfl rfl rfl ?_
      refine r_aload_n (i := 0) d_Ta_add_23 rfl rfl ?_
      refine r_getR (b := 1) (r := 2) d_Ta_add_24 fl_Ta_9 (by decide) rfl rfl rfl ?_
      refine r_alen (b := 2) (n := 160) (v := 160) d_Ta_add_27 (by decide) rfl al_160 ?_
      refine r_icmp_ge (tgt := 51) d_Ta_add_28 (by decide) (fun hc_28 => ?_) (fun hc_28 => ?_)
      · replace H := H.1 hc_28
        refine r_iinc (v := x2 + (-8)) (lz := [some (.ref 1), some (.int x1), some (.int (x2 + (-8))), some (.int (((x1.toUInt32 >>> (x2.toUInt32 &&& Int32.toUInt32 31)).toInt32) &&& 255))]) d_Ta_add_51 rfl (by rw [ic_m8]) (by decide) rfl rfl ?_
        refine r_goto (tgt := 3) d_Ta_add_54 (by decide) ?_
        exact rx_fgt [false, false, false, true] H
      · replace H := H.2 hc_28
        refine r_aload_n (i := 0) d_Ta_add_31 rfl rfl ?_
        refine r_getR (b := 1) (r := 2) d_Ta_add_32 fl_Ta_9 (by decide) rfl rfl rfl ?_
        refine r_aload_n (i := 0) d_Ta_add_35 rfl rfl ?_
        refine r_getI (b := 1) (v := hp.1 1 1) d_Ta_add_36 fl_Ta_15 (by decide) rfl rfl rfl ?_
        refine r_iload_n (i := 3) d_Ta_add_39 rfl rfl ?_
        obtain ⟨hi_40, H⟩ := H
        refine r_iast (b := 2) (i := (hp.1 1 1).toNatClampNeg) d_Ta_add_40 (by decide) rfl hi_40 rfl ?_
        refine r_aload_n (i := 0) d_Ta_add_41 rfl rfl ?_
        refine r_dupr d_Ta_add_42 ?_
        refine r_getI (b := 1) (v := hp.1 1 1) d_Ta_add_43 fl_Ta_15 (by decide) rfl rfl rfl ?_
        refine r_iconst d_Ta_add_46 ic_1 ?_
        refine r_iadd d_Ta_add_47 ?_
        refine r_putI (b := 1) d_Ta_add_48 fp_Ta_15 ⟨rfl, rfl⟩ (by decide) rfl rfl ?_
        refine r_iinc (v := x2 + (-8)) (lz := [some (.ref 1), some (.int x1), some (.int (x2 + (-8))), some (.int (((x1.toUInt32 >>> (x2.toUInt32 &&& Int32.toUInt32 31)).toInt32) &&& 255))]) d_Ta_add_51 rfl (by rw [ic_m8]) (by decide) rfl rfl ?_
        refine r_goto (tgt := 3) d_Ta_add_54 (by decide) ?_
        exact rx_fgt [false, false, false, true] H
set_option maxHeartbeats 4000000 in
set_option maxRecDepth 20000 in
theorem w_Ta_look {G : rx_Gh} {hp : rx_Hp} {F : Int32 → rx_Hp → Prop}  (H : Rn wC G 1 q_Ta_look 0 [some (.ref 1)] [] hp (rI F)) : Ev wC G 1 q_Ta_look [.ref 1] hp (rI F) := by
  refine ev_of rfl (Nat.le_of_ble_eq_true rfl) rfl ?_
  show Rn wC G 1 q_Ta_look 0 [some (.ref 1)] [] hp (rI F)
  exact H
set_option maxHeartbeats 4000000 in
set_option maxRecDepth 20000 in
theorem w_Ta_look_0 {G : rx_Gh} {hp : rx_Hp} {F : Int32 → rx_Hp → Prop}  (H : ((hp.1 1 1) ≤ (hp.1 1 2) → F 0 hp) ∧ (¬ (hp.1 1 1) ≤ (hp.1 1 2) → vp_in (hp.1 1 2) 160 ∧ (((hp.2.1 2 (hp.1 1 2).toNatClampNeg) = 32 → Rn wC G 1 q_Ta_look 0 [some (.ref 1)] [] (rx_pf hp 1 2 ((hp.1 1 2) + 1)) (rI F)) ∧ (¬ (hp.2.1 2 (hp.1 1 2).toNatClampNeg) = 32 → F (hp.2.1 2 (hp.1 1 2).toNatClampNeg) hp)))) : Rn wC G 1 q_Ta_look 0 [some (.ref 1)] [] hp (rI F) := by
  refine r_aload_n (i := 0) d_Ta_look_0 rfl rfl ?_
  refine r_getI (b := 1) (v := hp.1 1 2) d_Ta_look_1 fl_Ta_19 (by decide) rfl rfl rfl ?_
  refine r_aload_n (i := 0) d_Ta_look_4 rfl rfl ?_
  refine r_getI (b := 1) (v := hp.1 1 1) d_Ta_look_5 fl_Ta_15 (by decide) rfl rfl rfl ?_
  refine r_icmp_ge (tgt := 38) d_Ta_look_8 (by decide) (fun hc_8 => ?_) (fun hc_8 => ?_)
  · replace H := H.1 hc_8
    refine r_aload_n (i := 0) d_Ta_look_38 rfl rfl ?_
    refine r_getI (b := 1) (v := hp.1 1 2) d_Ta_look_39 fl_Ta_19 (by decide) rfl rfl rfl ?_
    refine r_aload_n (i := 0) d_Ta_look_42 rfl rfl ?_
    refine r_getI (b := 1) (v := hp.1 1 1) d_Ta_look_43 fl_Ta_15 (by decide) rfl rfl rfl ?_
    refine r_icmp_ge (tgt := 61) d_Ta_look_46 (by decide) (fun _ => ?_) (fun h => absurd hc_8 h)
    refine r_iconst d_Ta_look_61 ic_0 ?_
    exact rI_ret d_Ta_look_62 rfl H
  · replace H := H.2 hc_8
    refine r_aload_n (i := 0) d_Ta_look_11 rfl rfl ?_
    refine r_getR (b := 1) (r := 2) d_Ta_look_12 fl_Ta_9 (by decide) rfl rfl rfl ?_
    refine r_aload_n (i := 0) d_Ta_look_15 rfl rfl ?_
    refine r_getI (b := 1) (v := hp.1 1 2) d_Ta_look_16 fl_Ta_19 (by decide) rfl rfl rfl ?_
    obtain ⟨hi_19, H⟩ := H
    refine r_iald (b := 2) (v := hp.2.1 2 (hp.1 1 2).toNatClampNeg) d_Ta_look_19 (by decide) rfl hi_19 rfl ?_
    refine r_bipush d_Ta_look_20 bp_32 ?_
    refine r_icmp_ne (tgt := 38) d_Ta_look_22 (by decide) (fun hc_22 => ?_) (fun hc_22 => ?_)
    · replace H := H.2 hc_22
      refine r_aload_n (i := 0) d_Ta_look_38 rfl rfl ?_
      refine r_getI (b := 1) (v := hp.1 1 2) d_Ta_look_39 fl_Ta_19 (by decide) rfl rfl rfl ?_
      refine r_aload_n (i := 0) d_Ta_look_42 rfl rfl ?_
      refine r_getI (b := 1) (v := hp.1 1 1) d_Ta_look_43 fl_Ta_15 (by decide) rfl rfl rfl ?_
      refine r_icmp_ge (tgt := 61) d_Ta_look_46 (by decide) (fun h => absurd h hc_8) (fun _ => ?_)
      refine r_aload_n (i := 0) d_Ta_look_49 rfl rfl ?_
      refine r_getR (b := 1) (r := 2) d_Ta_look_50 fl_Ta_9 (by decide) rfl rfl rfl ?_
      refine r_aload_n (i := 0) d_Ta_look_53 rfl rfl ?_
      refine r_getI (b := 1) (v := hp.1 1 2) d_Ta_look_54 fl_Ta_19 (by decide) rfl rfl rfl ?_
      refine r_iald (b := 2) (v := hp.2.1 2 (hp.1 1 2).toNatClampNeg) d_Ta_look_57 (by decide) rfl hi_19 rfl ?_
      refine r_goto (tgt := 62) d_Ta_look_58 (by decide) ?_
      exact rI_ret d_Ta_look_62 rfl H
    · replace H := H.1 hc_22
      refine r_aload_n (i := 0) d_Ta_look_25 rfl rfl ?_
      refine r_dupr d_Ta_look_26 ?_
      refine r_getI (b := 1) (v := hp.1 1 2) d_Ta_look_27 fl_Ta_19 (by decide) rfl rfl rfl ?_
      refine r_iconst d_Ta_look_30 ic_1 ?_
      refine r_iadd d_Ta_look_31 ?_
      refine r_putI (b := 1) d_Ta_look_32 fp_Ta_19 ⟨rfl, rfl⟩ (by decide) rfl rfl ?_
      refine r_goto (tgt := 0) d_Ta_look_35 (by decide) ?_
      exact H
set_option maxHeartbeats 4000000 in
set_option maxRecDepth 20000 in
theorem w_Ta_number {G : rx_Gh} {hp : rx_Hp} {F : Int32 → rx_Hp → Prop} (a1 : Int32) (H : Rn wC G 1 q_Ta_number 4 [some (.ref 1), some (.int a1), some (.int 0), some (.int 0)] [] hp (rI F)) : Ev wC G 1 q_Ta_number [.ref 1, .int a1] hp (rI F) := by
  refine ev_of rfl (Nat.le_of_ble_eq_true rfl) rfl ?_
  show Rn wC G 1 q_Ta_number 0 [some (.ref 1), some (.int a1), none, none] [] hp (rI F)
  refine r_iconst d_Ta_number_0 ic_0 ?_
  refine r_istore_n (i := 2) (lz := [some (.ref 1), some (.int a1), some (.int 0), none]) d_Ta_number_1 rfl (by decide) rfl rfl ?_
  refine r_iconst d_Ta_number_2 ic_0 ?_
  refine r_istore_n (i := 3) (lz := [some (.ref 1), some (.int a1), some (.int 0), some (.int 0)]) d_Ta_number_3 rfl (by decide) rfl rfl ?_
  exact H
set_option maxHeartbeats 4000000 in
set_option maxRecDepth 20000 in
theorem w_Ta_number_4 {G : rx_Gh} {hp : rx_Hp} {F : Int32 → rx_Hp → Prop} (x1 : Int32) (x2 : Int32) (x3 : Int32) (H : ((hp.1 1 1) ≤ (hp.1 1 2) → F ((if x3 = 0 then (-1) else x2) : Int32) hp) ∧ (¬ (hp.1 1 1) ≤ (hp.1 1 2) → vp_in (hp.1 1 2) 160 ∧ (((hp.2.1 2 (hp.1 1 2).toNatClampNeg) < 48 → F ((if x3 = 0 then (-1) else x2) : Int32) hp) ∧ (¬ (hp.2.1 2 (hp.1 1 2).toNatClampNeg) < 48 → (57 < (hp.2.1 2 (hp.1 1 2).toNatClampNeg) → F ((if x3 = 0 then (-1) else x2) : Int32) hp) ∧ (¬ 57 < (hp.2.1 2 (hp.1 1 2).toNatClampNeg) → (x3 = x1 → F (-1) hp) ∧ (¬ x3 = x1 → Rn wC G 1 q_Ta_number 4 [some (.ref 1), some (.int x1), some (.int (((10 * x2) + (hp.2.1 2 (hp.1 1 2).toNatClampNeg)) - 48)), some (.int (x3 + 1))] [] (rx_pf hp 1 2 ((hp.1 1 2) + 1)) (rI F))))))) : Rn wC G 1 q_Ta_number 4 [some (.ref 1), some (.int x1), some (.int x2), some (.int x3)] [] hp (rI F) := by
  refine r_aload_n (i := 0) d_Ta_number_4 rfl rfl ?_
  refine r_getI (b := 1) (v := hp.1 1 2) d_Ta_number_5 fl_Ta_19 (by decide) rfl rfl rfl ?_
  refine r_aload_n (i := 0) d_Ta_number_8 rfl rfl ?_
  refine r_getI (b := 1) (v := hp.1 1 1) d_Ta_number_9 fl_Ta_15 (by decide) rfl rfl rfl ?_
  refine r_icmp_ge (tgt := 84) d_Ta_number_12 (by decide) (fun hc_12 => ?_) (fun hc_12 => ?_)
  · replace H := H.1 hc_12
    have J85 : ∀ (v85_0 : Int32), v85_0 = ((if x3 = 0 then (-1) else x2) : Int32) → Rn wC G 1 q_Ta_number 93 [some (.ref 1), some (.int x1), some (.int x2), some (.int x3)] [.int v85_0] hp (rI F) := by
      rintro _ rfl
      exact rI_ret d_Ta_number_93 rfl H
    refine r_iload_n (i := 3) d_Ta_number_84 rfl rfl ?_
    refine r_if_ne (tgt := 92) d_Ta_number_85 (by decide) (fun hc_85 => ?_) (fun hc_85 => ?_)
    · refine r_iload_n (i := 2) d_Ta_number_92 rfl rfl ?_
      exact J85 _ (((if_neg hc_85).trans rfl)).symm
    · refine r_iconst d_Ta_number_88 ic_m1 ?_
      refine r_goto (tgt := 93) d_Ta_number_89 (by decide) ?_
      exact J85 _ (((if_pos hc_85).trans rfl)).symm
  · replace H := H.2 hc_12
    refine r_aload_n (i := 0) d_Ta_number_15 rfl rfl ?_
    refine r_getR (b := 1) (r := 2) d_Ta_number_16 fl_Ta_9 (by decide) rfl rfl rfl ?_
    refine r_aload_n (i := 0) d_Ta_number_19 rfl rfl ?_
    refine r_getI (b := 1) (v := hp.1 1 2) d_Ta_number_20 fl_Ta_19 (by decide) rfl rfl rfl ?_
    obtain ⟨hi_23, H⟩ := H
    refine r_iald (b := 2) (v := hp.2.1 2 (hp.1 1 2).toNatClampNeg) d_Ta_number_23 (by decide) rfl hi_23 rfl ?_
    refine r_bipush d_Ta_number_24 bp_48 ?_
    refine r_icmp_lt (tgt := 84) d_Ta_number_26 (by decide) (fun hc_26 => ?_) (fun hc_26 => ?_)
    · replace H := H.1 hc_26
      have J85 : ∀ (v85_0 : Int32), v85_0 = ((if x3 = 0 then (-1) else x2) : Int32) → Rn wC G 1 q_Ta_number 93 [some (.ref 1), some (.int x1), some (.int x2), some (.int x3)] [.int v85_0] hp (rI F) := by
        rintro _ rfl
        exact rI_ret d_Ta_number_93 rfl H
      refine r_iload_n (i := 3) d_Ta_number_84 rfl rfl ?_
      refine r_if_ne (tgt := 92) d_Ta_number_85 (by decide) (fun hc_85 => ?_) (fun hc_85 => ?_)
      · refine r_iload_n (i := 2) d_Ta_number_92 rfl rfl ?_
        exact J85 _ (((if_neg hc_85).trans rfl)).symm
      · refine r_iconst d_Ta_number_88 ic_m1 ?_
        refine r_goto (tgt := 93) d_Ta_number_89 (by decide) ?_
        exact J85 _ (((if_pos hc_85).trans rfl)).symm
    · replace H := H.2 hc_26
      refine r_aload_n (i := 0) d_Ta_number_29 rfl rfl ?_
      refine r_getR (b := 1) (r := 2) d_Ta_number_30 fl_Ta_9 (by decide) rfl rfl rfl ?_
      refine r_aload_n (i := 0) d_Ta_number_33 rfl rfl ?_
      refine r_getI (b := 1) (v := hp.1 1 2) d_Ta_number_34 fl_Ta_19 (by decide) rfl rfl rfl ?_
      refine r_iald (b := 2) (v := hp.2.1 2 (hp.1 1 2).toNatClampNeg) d_Ta_number_37 (by decide) rfl hi_23 rfl ?_
      refine r_bipush d_Ta_number_38 bp_57 ?_
      refine r_icmp_gt (tgt := 84) d_Ta_number_40 (by decide) (fun hc_40 => ?_) (fun hc_40 => ?_)
      · replace H := H.1 hc_40
        have J85 : ∀ (v85_0 : Int32), v85_0 = ((if x3 = 0 then (-1) else x2) : Int32) → Rn wC G 1 q_Ta_number 93 [some (.ref 1), some (.int x1), some (.int x2), some (.int x3)] [.int v85_0] hp (rI F) := by
          rintro _ rfl
          exact rI_ret d_Ta_number_93 rfl H
        refine r_iload_n (i := 3) d_Ta_number_84 rfl rfl ?_
        refine r_if_ne (tgt := 92) d_Ta_number_85 (by decide) (fun hc_85 => ?_) (fun hc_85 => ?_)
        · refine r_iload_n (i := 2) d_Ta_number_92 rfl rfl ?_
          exact J85 _ (((if_neg hc_85).trans rfl)).symm
        · refine r_iconst d_Ta_number_88 ic_m1 ?_
          refine r_goto (tgt := 93) d_Ta_number_89 (by decide) ?_
          exact J85 _ (((if_pos hc_85).trans rfl)).symm
      · replace H := H.2 hc_40
        refine r_iload_n (i := 3) d_Ta_number_43 rfl rfl ?_
        refine r_iload_n (i := 1) d_Ta_number_44 rfl rfl ?_
        refine r_icmp_ne (tgt := 50) d_Ta_number_45 (by decide) (fun hc_45 => ?_) (fun hc_45 => ?_)
        · replace H := H.2 hc_45
          refine r_bipush d_Ta_number_50 bp_10 ?_
          refine r_iload_n (i := 2) d_Ta_number_52 rfl rfl ?_
          refine r_imul d_Ta_number_53 ?_
          refine r_aload_n (i := 0) d_Ta_number_54 rfl rfl ?_
          refine r_getR (b := 1) (r := 2) d_Ta_number_55 fl_Ta_9 (by decide) rfl rfl rfl ?_
          refine r_aload_n (i := 0) d_Ta_number_58 rfl rfl ?_
          refine r_getI (b := 1) (v := hp.1 1 2) d_Ta_number_59 fl_Ta_19 (by decide) rfl rfl rfl ?_
          refine r_iald (b := 2) (v := hp.2.1 2 (hp.1 1 2).toNatClampNeg) d_Ta_number_62 (by decide) rfl hi_23 rfl ?_
          refine r_iadd d_Ta_number_63 ?_
          refine r_bipush d_Ta_number_64 bp_48 ?_
          refine r_isub d_Ta_number_66 ?_
          refine r_istore_n (i := 2) (lz := [some (.ref 1), some (.int x1), some (.int (((10 * x2) + (hp.2.1 2 (hp.1 1 2).toNatClampNeg)) - 48)), some (.int x3)]) d_Ta_number_67 rfl (by decide) rfl rfl ?_
          refine r_iinc (v := x3 + 1) (lz := [some (.ref 1), some (.int x1), some (.int (((10 * x2) + (hp.2.1 2 (hp.1 1 2).toNatClampNeg)) - 48)), some (.int (x3 + 1))]) d_Ta_number_68 rfl (by rw [ic_1]) (by decide) rfl rfl ?_
          refine r_aload_n (i := 0) d_Ta_number_71 rfl rfl ?_
          refine r_dupr d_Ta_number_72 ?_
          refine r_getI (b := 1) (v := hp.1 1 2) d_Ta_number_73 fl_Ta_19 (by decide) rfl rfl rfl ?_
          refine r_iconst d_Ta_number_76 ic_1 ?_
          refine r_iadd d_Ta_number_77 ?_
          refine r_putI (b := 1) d_Ta_number_78 fp_Ta_19 ⟨rfl, rfl⟩ (by decide) rfl rfl ?_
          refine r_goto (tgt := 4) d_Ta_number_81 (by decide) ?_
          exact H
        · replace H := H.1 hc_45
          refine r_iconst d_Ta_number_48 ic_m1 ?_
          exact rI_ret d_Ta_number_49 rfl H
set_option maxHeartbeats 4000000 in
set_option maxRecDepth 20000 in
theorem w_Di_measure {G : rx_Gh} {hp : rx_Hp} {F : rx_Hp → Prop} (a1 : Int32) (a2 : Int32) (H : Rn wC G 3 q_Di_measure 61 [some (.ref 40), some (.int a1), some (.int a2), some (.int (f_Ha_lowI (hp.1 3 7))), none] [] (rx_pf (rx_pf (rx_pf (rx_pf hp 40 3 (f_Ha_lowI (hp.1 3 7))) 40 4 (f_Ha_highI (hp.1 3 7))) 40 5 (f_Ha_lowJ (hp.1 3 7))) 40 6 (f_Ha_highJ (hp.1 3 7))) (rV F)) : Ev wC G 3 q_Di_measure [.ref 40, .int a1, .int a2] hp (rV F) := by
  refine ev_of rfl (Nat.le_of_ble_eq_true rfl) rfl ?_
  show Rn wC G 3 q_Di_measure 0 [some (.ref 40), some (.int a1), some (.int a2), none, none] [] hp (rV F)
  refine r_aload_n (i := 0) d_Di_measure_0 rfl rfl ?_
  refine r_aload_n (i := 0) d_Di_measure_1 rfl rfl ?_
  refine r_getR (b := 40) (r := 3) d_Di_measure_2 fl_Di_18 (by decide) rfl rfl rfl ?_
  refine r_getI (b := 3) (v := hp.1 3 7) d_Di_measure_5 fl_Di_22 (by decide) rfl rfl rfl ?_
  refine rk_SI (d' := 2) [.int (hp.1 3 7)] [.ref 40] d_Di_measure_8 ml_Di_28 rfl rfl (by decide) (Nat.le_of_ble_eq_true rfl) (s_Ha_lowI (hp.1 3 7) ?_)
  refine r_putI (b := 40) d_Di_measure_11 fp_Di_32 ⟨rfl, rfl⟩ (by decide) rfl rfl ?_
  refine r_aload_n (i := 0) d_Di_measure_14 rfl rfl ?_
  refine r_aload_n (i := 0) d_Di_measure_15 rfl rfl ?_
  refine r_getR (b := 40) (r := 3) d_Di_measure_16 fl_Di_18 (by decide) rfl rfl rfl ?_
  refine r_getI (b := 3) (v := hp.1 3 7) d_Di_measure_19 fl_Di_22 (by decide) rfl rfl rfl ?_
  refine rk_SI (d' := 2) [.int (hp.1 3 7)] [.ref 40] d_Di_measure_22 ml_Di_34 rfl rfl (by decide) (Nat.le_of_ble_eq_true rfl) (s_Ha_highI (hp.1 3 7) ?_)
  refine r_putI (b := 40) d_Di_measure_25 fp_Di_37 ⟨rfl, rfl⟩ (by decide) rfl rfl ?_
  refine r_aload_n (i := 0) d_Di_measure_28 rfl rfl ?_
  refine r_aload_n (i := 0) d_Di_measure_29 rfl rfl ?_
  refine r_getR (b := 40) (r := 3) d_Di_measure_30 fl_Di_18 (by decide) rfl rfl rfl ?_
  refine r_getI (b := 3) (v := hp.1 3 7) d_Di_measure_33 fl_Di_22 (by decide) rfl rfl rfl ?_
  refine rk_SI (d' := 2) [.int (hp.1 3 7)] [.ref 40] d_Di_measure_36 ml_Di_39 rfl rfl (by decide) (Nat.le_of_ble_eq_true rfl) (s_Ha_lowJ (hp.1 3 7) ?_)
  refine r_putI (b := 40) d_Di_measure_39 fp_Di_42 ⟨rfl, rfl⟩ (by decide) rfl rfl ?_
  refine r_aload_n (i := 0) d_Di_measure_42 rfl rfl ?_
  refine r_aload_n (i := 0) d_Di_measure_43 rfl rfl ?_
  refine r_getR (b := 40) (r := 3) d_Di_measure_44 fl_Di_18 (by decide) rfl rfl rfl ?_
  refine r_getI (b := 3) (v := hp.1 3 7) d_Di_measure_47 fl_Di_22 (by decide) rfl rfl rfl ?_
  refine rk_SI (d' := 2) [.int (hp.1 3 7)] [.ref 40] d_Di_measure_50 ml_Di_44 rfl rfl (by decide) (Nat.le_of_ble_eq_true rfl) (s_Ha_highJ (hp.1 3 7) ?_)
  refine r_putI (b := 40) d_Di_measure_53 fp_Di_47 ⟨rfl, rfl⟩ (by decide) rfl rfl ?_
  refine r_aload_n (i := 0) d_Di_measure_56 rfl rfl ?_
  refine r_getI (b := 40) (v := (f_Ha_lowI (hp.1 3 7))) d_Di_measure_57 fl_Di_32 (by decide) rfl rfl rfl ?_
  refine r_istore_n (i := 3) (lz := [some (.ref 40), some (.int a1), some (.int a2), some (.int (f_Ha_lowI (hp.1 3 7))), none]) d_Di_measure_60 rfl (by decide) rfl rfl ?_
  exact H
set_option maxHeartbeats 4000000 in
set_option maxRecDepth 20000 in
theorem w_Di_measure_61 {G : rx_Gh} {hp : rx_Hp} {F : rx_Hp → Prop} (x1 : Int32) (x2 : Int32) (x3 : Int32) (H : ((hp.1 40 4) < x3 → Rn wC G 3 q_Di_measure 126 [some (.ref 40), some (.int x1), some (.int x2), some (.int (hp.1 40 5)), none] [] hp (rV F)) ∧ (¬ (hp.1 40 4) < x3 → vp_in x1 6 ∧ (vp_in x2 6 ∧ (vp_in (x3 + 10) 21 ∧ (Rn wC G 3 q_Di_measure 61 [some (.ref 40), some (.int x1), some (.int x2), some (.int (x3 + 1)), none] [] (rx_pa hp 41 ((x3 + 10).toNatClampNeg) (((f_Ha_spot x3 (hp.1 3 5) (hp.2.1 4 x1.toNatClampNeg)) - (hp.2.1 4 x2.toNatClampNeg)) * ((f_Ha_spot x3 (hp.1 3 5) (hp.2.1 4 x1.toNatClampNeg)) - (hp.2.1 4 x2.toNatClampNeg)))) (rV F)))))) : Rn wC G 3 q_Di_measure 61 [some (.ref 40), some (.int x1), some (.int x2), some (.int x3), none] [] hp (rV F) := by
  refine r_iload_n (i := 3) d_Di_measure_61 rfl rfl ?_
  refine r_aload_n (i := 0) d_Di_measure_62 rfl rfl ?_
  refine r_getI (b := 40) (v := hp.1 40 4) d_Di_measure_63 fl_Di_37 (by decide) rfl rfl rfl ?_
  refine r_icmp_gt (tgt := 121) d_Di_measure_66 (by decide) (fun hc_66 => ?_) (fun hc_66 => ?_)
  · replace H := H.1 hc_66
    refine r_aload_n (i := 0) d_Di_measure_121 rfl rfl ?_
    refine r_getI (b := 40) (v := hp.1 40 5) d_Di_measure_122 fl_Di_42 (by decide) rfl rfl rfl ?_
    refine r_istore_n (i := 3) (lz := [some (.ref 40), some (.int x1), some (.int x2), some (.int (hp.1 40 5)), none]) d_Di_measure_125 rfl (by decide) rfl rfl ?_
    exact H
  · replace H := H.2 hc_66
    refine r_iload_n (i := 3) d_Di_measure_69 rfl rfl ?_
    refine r_aload_n (i := 0) d_Di_measure_70 rfl rfl ?_
    refine r_getR (b := 40) (r := 3) d_Di_measure_71 fl_Di_18 (by decide) rfl rfl rfl ?_
    refine r_getI (b := 3) (v := hp.1 3 5) d_Di_measure_74 fl_Di_49 (by decide) rfl rfl rfl ?_
    refine r_aload_n (i := 0) d_Di_measure_77 rfl rfl ?_
    refine r_getR (b := 40) (r := 3) d_Di_measure_78 fl_Di_18 (by decide) rfl rfl rfl ?_
    refine r_getR (b := 3) (r := 4) d_Di_measure_81 fl_Di_52 (by decide) rfl rfl rfl ?_
    refine r_iload_n (i := 1) d_Di_measure_84 rfl rfl ?_
    obtain ⟨hi_85, H⟩ := H
    refine r_iald (b := 4) (v := hp.2.1 4 x1.toNatClampNeg) d_Di_measure_85 (by decide) rfl hi_85 rfl ?_
    refine rk_SI (d' := 1) [.int x3, .int (hp.1 3 5), .int (hp.2.1 4 x1.toNatClampNeg)] [] d_Di_measure_86 ml_Di_55 rfl rfl (by decide) (Nat.le_of_ble_eq_true rfl) (s_Ha_spot x3 (hp.1 3 5) (hp.2.1 4 x1.toNatClampNeg) ?_)
    refine r_aload_n (i := 0) d_Di_measure_89 rfl rfl ?_
    refine r_getR (b := 40) (r := 3) d_Di_measure_90 fl_Di_18 (by decide) rfl rfl rfl ?_
    refine r_getR (b := 3) (r := 4) d_Di_measure_93 fl_Di_52 (by decide) rfl rfl rfl ?_
    refine r_iload_n (i := 2) d_Di_measure_96 rfl rfl ?_
    obtain ⟨hi_97, H⟩ := H
    refine r_iald (b := 4) (v := hp.2.1 4 x2.toNatClampNeg) d_Di_measure_97 (by decide) rfl hi_97 rfl ?_
    refine r_isub d_Di_measure_98 ?_
    refine r_istore (lz := [some (.ref 40), some (.int x1), some (.int x2), some (.int x3), some (.int ((f_Ha_spot x3 (hp.1 3 5) (hp.2.1 4 x1.toNatClampNeg)) - (hp.2.1 4 x2.toNatClampNeg)))]) d_Di_measure_99 (by decide) rfl rfl ?_
    refine r_aload_n (i := 0) d_Di_measure_101 rfl rfl ?_
    refine r_getR (b := 40) (r := 41) d_Di_measure_102 fl_Di_9 (by decide) rfl rfl rfl ?_
    refine r_iload_n (i := 3) d_Di_measure_105 rfl rfl ?_
    refine r_bipush d_Di_measure_106 bp_10 ?_
    refine r_iadd d_Di_measure_108 ?_
    refine r_iload d_Di_measure_109 rfl ?_
    refine r_iload d_Di_measure_111 rfl ?_
    refine r_imul d_Di_measure_113 ?_
    obtain ⟨hi_114, H⟩ := H
    refine r_iast (b := 41) (i := (x3 + 10).toNatClampNeg) d_Di_measure_114 (by decide) rfl hi_114 rfl ?_
    refine r_iinc (v := x3 + 1) (lz := [some (.ref 40), some (.int x1), some (.int x2), some (.int (x3 + 1)), some (.int ((f_Ha_spot x3 (hp.1 3 5) (hp.2.1 4 x1.toNatClampNeg)) - (hp.2.1 4 x2.toNatClampNeg)))]) d_Di_measure_115 rfl (by rw [ic_1]) (by decide) rfl rfl ?_
    refine r_goto (tgt := 61) d_Di_measure_118 (by decide) ?_
    exact rx_fgt [false, false, false, false, true] H
set_option maxHeartbeats 4000000 in
set_option maxRecDepth 20000 in
theorem w_Di_measure_126 {G : rx_Gh} {hp : rx_Hp} {F : rx_Hp → Prop} (x1 : Int32) (x2 : Int32) (x3 : Int32) (H : ((hp.1 40 6) < x3 → F hp) ∧ (¬ (hp.1 40 6) < x3 → vp_in x1 6 ∧ (vp_in x2 6 ∧ (vp_in (x3 + 10) 21 ∧ (Rn wC G 3 q_Di_measure 126 [some (.ref 40), some (.int x1), some (.int x2), some (.int (x3 + 1)), none] [] (rx_pa hp 42 ((x3 + 10).toNatClampNeg) (((f_Ha_spot x3 (hp.1 3 6) (hp.2.1 5 x1.toNatClampNeg)) - (hp.2.1 5 x2.toNatClampNeg)) * ((f_Ha_spot x3 (hp.1 3 6) (hp.2.1 5 x1.toNatClampNeg)) - (hp.2.1 5 x2.toNatClampNeg)))) (rV F)))))) : Rn wC G 3 q_Di_measure 126 [some (.ref 40), some (.int x1), some (.int x2), some (.int x3), none] [] hp (rV F) := by
  refine r_iload_n (i := 3) d_Di_measure_126 rfl rfl ?_
  refine r_aload_n (i := 0) d_Di_measure_127 rfl rfl ?_
  refine r_getI (b := 40) (v := hp.1 40 6) d_Di_measure_128 fl_Di_47 (by decide) rfl rfl rfl ?_
  refine r_icmp_gt (tgt := 186) d_Di_measure_131 (by decide) (fun hc_131 => ?_) (fun hc_131 => ?_)
  · replace H := H.1 hc_131
    exact rV_ret d_Di_measure_186 rfl H
  · replace H := H.2 hc_131
    refine r_iload_n (i := 3) d_Di_measure_134 rfl rfl ?_
    refine r_aload_n (i := 0) d_Di_measure_135 rfl rfl ?_
    refine r_getR (b := 40) (r := 3) d_Di_measure_136 fl_Di_18 (by decide) rfl rfl rfl ?_
    refine r_getI (b := 3) (v := hp.1 3 6) d_Di_measure_139 fl_Di_59 (by decide) rfl rfl rfl ?_
    refine r_aload_n (i := 0) d_Di_measure_142 rfl rfl ?_
    refine r_getR (b := 40) (r := 3) d_Di_measure_143 fl_Di_18 (by decide) rfl rfl rfl ?_
    refine r_getR (b := 3) (r := 5) d_Di_measure_146 fl_Di_62 (by decide) rfl rfl rfl ?_
    refine r_iload_n (i := 1) d_Di_measure_149 rfl rfl ?_
    obtain ⟨hi_150, H⟩ := H
    refine r_iald (b := 5) (v := hp.2.1 5 x1.toNatClampNeg) d_Di_measure_150 (by decide) rfl hi_150 rfl ?_
    refine rk_SI (d' := 1) [.int x3, .int (hp.1 3 6), .int (hp.2.1 5 x1.toNatClampNeg)] [] d_Di_measure_151 ml_Di_55 rfl rfl (by decide) (Nat.le_of_ble_eq_true rfl) (s_Ha_spot x3 (hp.1 3 6) (hp.2.1 5 x1.toNatClampNeg) ?_)
    refine r_aload_n (i := 0) d_Di_measure_154 rfl rfl ?_
    refine r_getR (b := 40) (r := 3) d_Di_measure_155 fl_Di_18 (by decide) rfl rfl rfl ?_
    refine r_getR (b := 3) (r := 5) d_Di_measure_158 fl_Di_62 (by decide) rfl rfl rfl ?_
    refine r_iload_n (i := 2) d_Di_measure_161 rfl rfl ?_
    obtain ⟨hi_162, H⟩ := H
    refine r_iald (b := 5) (v := hp.2.1 5 x2.toNatClampNeg) d_Di_measure_162 (by decide) rfl hi_162 rfl ?_
    refine r_isub d_Di_measure_163 ?_
    refine r_istore (lz := [some (.ref 40), some (.int x1), some (.int x2), some (.int x3), some (.int ((f_Ha_spot x3 (hp.1 3 6) (hp.2.1 5 x1.toNatClampNeg)) - (hp.2.1 5 x2.toNatClampNeg)))]) d_Di_measure_164 (by decide) rfl rfl ?_
    refine r_aload_n (i := 0) d_Di_measure_166 rfl rfl ?_
    refine r_getR (b := 40) (r := 42) d_Di_measure_167 fl_Di_15 (by decide) rfl rfl rfl ?_
    refine r_iload_n (i := 3) d_Di_measure_170 rfl rfl ?_
    refine r_bipush d_Di_measure_171 bp_10 ?_
    refine r_iadd d_Di_measure_173 ?_
    refine r_iload d_Di_measure_174 rfl ?_
    refine r_iload d_Di_measure_176 rfl ?_
    refine r_imul d_Di_measure_178 ?_
    obtain ⟨hi_179, H⟩ := H
    refine r_iast (b := 42) (i := (x3 + 10).toNatClampNeg) d_Di_measure_179 (by decide) rfl hi_179 rfl ?_
    refine r_iinc (v := x3 + 1) (lz := [some (.ref 40), some (.int x1), some (.int x2), some (.int (x3 + 1)), some (.int ((f_Ha_spot x3 (hp.1 3 6) (hp.2.1 5 x1.toNatClampNeg)) - (hp.2.1 5 x2.toNatClampNeg)))]) d_Di_measure_180 rfl (by rw [ic_1]) (by decide) rfl rfl ?_
    refine r_goto (tgt := 126) d_Di_measure_183 (by decide) ?_
    exact rx_fgt [false, false, false, false, true] H
set_option maxHeartbeats 4000000 in
set_option maxRecDepth 20000 in
theorem w_Di_upTo {G : rx_Gh} {hp : rx_Hp} {F : Int32 → rx_Hp → Prop} (a1 : Int32) (H : Rn wC G 1 q_Di_upTo 7 [some (.ref 40), some (.int a1), some (.int 0), some (.int (hp.1 40 3)), none, none] [] hp (rI F)) : Ev wC G 1 q_Di_upTo [.ref 40, .int a1] hp (rI F) := by
  refine ev_of rfl (Nat.le_of_ble_eq_true rfl) rfl ?_
  show Rn wC G 1 q_Di_upTo 0 [some (.ref 40), some (.int a1), none, none, none, none] [] hp (rI F)
  refine r_iconst d_Di_upTo_0 ic_0 ?_
  refine r_istore_n (i := 2) (lz := [some (.ref 40), some (.int a1), some (.int 0), none, none, none]) d_Di_upTo_1 rfl (by decide) rfl rfl ?_
  refine r_aload_n (i := 0) d_Di_upTo_2 rfl rfl ?_
  refine r_getI (b := 40) (v := hp.1 40 3) d_Di_upTo_3 fl_Di_32 (by decide) rfl rfl rfl ?_
  refine r_istore_n (i := 3) (lz := [some (.ref 40), some (.int a1), some (.int 0), some (.int (hp.1 40 3)), none, none]) d_Di_upTo_6 rfl (by decide) rfl rfl ?_
  exact H
set_option maxHeartbeats 4000000 in
set_option maxRecDepth 20000 in
theorem w_Di_upTo_7 {G : rx_Gh} {hp : rx_Hp} {F : Int32 → rx_Hp → Prop} (x1 : Int32) (x2 : Int32) (x3 : Int32) (H : ((hp.1 40 4) < x3 → F x2 hp) ∧ (¬ (hp.1 40 4) < x3 → vp_in (x3 + 10) 21 ∧ (((x1 - (hp.2.1 41 (x3 + 10).toNatClampNeg)) < 0 → Rn wC G 1 q_Di_upTo 7 [some (.ref 40), some (.int x1), some (.int x2), some (.int (x3 + 1)), none, none] [] hp (rI F)) ∧ (¬ (x1 - (hp.2.1 41 (x3 + 10).toNatClampNeg)) < 0 → Rn wC G 1 q_Di_upTo 39 [some (.ref 40), some (.int x1), some (.int x2), some (.int x3), some (.int (x1 - (hp.2.1 41 (x3 + 10).toNatClampNeg))), some (.int (hp.1 40 5))] [] hp (rI F))))) : Rn wC G 1 q_Di_upTo 7 [some (.ref 40), some (.int x1), some (.int x2), some (.int x3), none, none] [] hp (rI F) := by
  refine r_iload_n (i := 3) d_Di_upTo_7 rfl rfl ?_
  refine r_aload_n (i := 0) d_Di_upTo_8 rfl rfl ?_
  refine r_getI (b := 40) (v := hp.1 40 4) d_Di_upTo_9 fl_Di_37 (by decide) rfl rfl rfl ?_
  refine r_icmp_gt (tgt := 78) d_Di_upTo_12 (by decide) (fun hc_12 => ?_) (fun hc_12 => ?_)
  · replace H := H.1 hc_12
    refine r_iload_n (i := 2) d_Di_upTo_78 rfl rfl ?_
    exact rI_ret d_Di_upTo_79 rfl H
  · replace H := H.2 hc_12
    refine r_iload_n (i := 1) d_Di_upTo_15 rfl rfl ?_
    refine r_aload_n (i := 0) d_Di_upTo_16 rfl rfl ?_
    refine r_getR (b := 40) (r := 41) d_Di_upTo_17 fl_Di_9 (by decide) rfl rfl rfl ?_
    refine r_iload_n (i := 3) d_Di_upTo_20 rfl rfl ?_
    refine r_bipush d_Di_upTo_21 bp_10 ?_
    refine r_iadd d_Di_upTo_23 ?_
    obtain ⟨hi_24, H⟩ := H
    refine r_iald (b := 41) (v := hp.2.1 41 (x3 + 10).toNatClampNeg) d_Di_upTo_24 (by decide) rfl hi_24 rfl ?_
    refine r_isub d_Di_upTo_25 ?_
    refine r_istore (lz := [some (.ref 40), some (.int x1), some (.int x2), some (.int x3), some (.int (x1 - (hp.2.1 41 (x3 + 10).toNatClampNeg))), none]) d_Di_upTo_26 (by decide) rfl rfl ?_
    refine r_iload d_Di_upTo_28 rfl ?_
    refine r_if_lt (tgt := 72) d_Di_upTo_30 (by decide) (fun hc_30 => ?_) (fun hc_30 => ?_)
    · replace H := H.1 hc_30
      refine r_iinc (v := x3 + 1) (lz := [some (.ref 40), some (.int x1), some (.int x2), some (.int (x3 + 1)), some (.int (x1 - (hp.2.1 41 (x3 + 10).toNatClampNeg))), none]) d_Di_upTo_72 rfl (by rw [ic_1]) (by decide) rfl rfl ?_
      refine r_goto (tgt := 7) d_Di_upTo_75 (by decide) ?_
      exact rx_fgt [false, false, false, false, true] H
    · replace H := H.2 hc_30
      refine r_aload_n (i := 0) d_Di_upTo_33 rfl rfl ?_
      refine r_getI (b := 40) (v := hp.1 40 5) d_Di_upTo_34 fl_Di_42 (by decide) rfl rfl rfl ?_
      refine r_istore (lz := [some (.ref 40), some (.int x1), some (.int x2), some (.int x3), some (.int (x1 - (hp.2.1 41 (x3 + 10).toNatClampNeg))), some (.int (hp.1 40 5))]) d_Di_upTo_37 (by decide) rfl rfl ?_
      exact H
set_option maxHeartbeats 4000000 in
set_option maxRecDepth 20000 in
theorem w_Di_upTo_39 {G : rx_Gh} {hp : rx_Hp} {F : Int32 → rx_Hp → Prop} (x1 : Int32) (x2 : Int32) (x3 : Int32) (x4 : Int32) (x5 : Int32) (H : ((hp.1 40 6) < x5 → Rn wC G 1 q_Di_upTo 7 [some (.ref 40), some (.int x1), some (.int x2), some (.int (x3 + 1)), none, none] [] hp (rI F)) ∧ (¬ (hp.1 40 6) < x5 → vp_in (x5 + 10) 21 ∧ (Rn wC G 1 q_Di_upTo 39 [some (.ref 40), some (.int x1), some (.int ((if x4 < (hp.2.1 42 (x5 + 10).toNatClampNeg) then x2 else (x2 + 1)) : Int32)), some (.int x3), some (.int x4), some (.int (x5 + 1))] [] hp (rI F)))) : Rn wC G 1 q_Di_upTo 39 [some (.ref 40), some (.int x1), some (.int x2), some (.int x3), some (.int x4), some (.int x5)] [] hp (rI F) := by
  refine r_iload d_Di_upTo_39 rfl ?_
  refine r_aload_n (i := 0) d_Di_upTo_41 rfl rfl ?_
  refine r_getI (b := 40) (v := hp.1 40 6) d_Di_upTo_42 fl_Di_47 (by decide) rfl rfl rfl ?_
  refine r_icmp_gt (tgt := 72) d_Di_upTo_45 (by decide) (fun hc_45 => ?_) (fun hc_45 => ?_)
  · replace H := H.1 hc_45
    refine r_iinc (v := x3 + 1) (lz := [some (.ref 40), some (.int x1), some (.int x2), some (.int (x3 + 1)), some (.int x4), some (.int x5)]) d_Di_upTo_72 rfl (by rw [ic_1]) (by decide) rfl rfl ?_
    refine r_goto (tgt := 7) d_Di_upTo_75 (by decide) ?_
    exact rx_fgt [false, false, false, false, true, true] H
  · replace H := H.2 hc_45
    refine r_aload_n (i := 0) d_Di_upTo_48 rfl rfl ?_
    refine r_getR (b := 40) (r := 42) d_Di_upTo_49 fl_Di_15 (by decide) rfl rfl rfl ?_
    refine r_iload d_Di_upTo_52 rfl ?_
    refine r_bipush d_Di_upTo_54 bp_10 ?_
    refine r_iadd d_Di_upTo_56 ?_
    obtain ⟨hi_57, H⟩ := H
    refine r_iald (b := 42) (v := hp.2.1 42 (x5 + 10).toNatClampNeg) d_Di_upTo_57 (by decide) rfl hi_57 rfl ?_
    have J60 : ∀ (v60_0 : Int32), v60_0 = ((if x4 < (hp.2.1 42 (x5 + 10).toNatClampNeg) then x2 else (x2 + 1)) : Int32) → Rn wC G 1 q_Di_upTo 66 [some (.ref 40), some (.int x1), some (.int v60_0), some (.int x3), some (.int x4), some (.int x5)] [] hp (rI F) := by
      rintro _ rfl
      refine r_iinc (v := x5 + 1) (lz := [some (.ref 40), some (.int x1), some (.int ((if x4 < (hp.2.1 42 (x5 + 10).toNatClampNeg) then x2 else (x2 + 1)) : Int32)), some (.int x3), some (.int x4), some (.int (x5 + 1))]) d_Di_upTo_66 rfl (by rw [ic_1]) (by decide) rfl rfl ?_
      refine r_goto (tgt := 39) d_Di_upTo_69 (by decide) ?_
      exact H
    refine r_iload d_Di_upTo_58 rfl ?_
    refine r_icmp_gt (tgt := 66) d_Di_upTo_60 (by decide) (fun hc_60 => ?_) (fun hc_60 => ?_)
    · exact J60 _ (((if_pos hc_60).trans rfl)).symm
    · refine r_iinc (v := x2 + 1) (lz := [some (.ref 40), some (.int x1), some (.int (x2 + 1)), some (.int x3), some (.int x4), some (.int x5)]) d_Di_upTo_63 rfl (by rw [ic_1]) (by decide) rfl rfl ?_
      exact J60 _ (((if_neg hc_60).trans rfl)).symm
set_option maxHeartbeats 4000000 in
set_option maxRecDepth 20000 in
theorem w_Ha_isInside_10 {G : rx_Gh} {hp : rx_Hp} {F : Int32 → rx_Hp → Prop} (a1 : Int32) (a2 : Int32) (H : F ((if a1 < 0 then 0 else ((if (hp.1 10 5) < a1 then 0 else ((if a2 < 0 then 0 else ((if (hp.1 10 6) < a2 then 0 else 1) : Int32)) : Int32)) : Int32)) : Int32) hp) : Ev wC G 1 q_Ha_isInside [.ref 10, .int a1, .int a2] hp (rI F) := by
  refine ev_of rfl (Nat.le_of_ble_eq_true rfl) rfl ?_
  show Rn wC G 1 q_Ha_isInside 0 [some (.ref 10), some (.int a1), some (.int a2)] [] hp (rI F)
  have J1 : ∀ (v1_0 : Int32), v1_0 = ((if a1 < 0 then 0 else ((if (hp.1 10 5) < a1 then 0 else ((if a2 < 0 then 0 else ((if (hp.1 10 6) < a2 then 0 else 1) : Int32)) : Int32)) : Int32)) : Int32) → Rn wC G 1 q_Ha_isInside 29 [some (.ref 10), some (.int a1), some (.int a2)] [.int v1_0] hp (rI F) := by
    rintro _ rfl
    exact rZ_ret d_Ha_isInside_29 rfl (rb_ite (Or.inl rfl) (rb_ite (Or.inl rfl) (rb_ite (Or.inl rfl) (rb_ite (Or.inl rfl) (Or.inr rfl))))) H
  refine r_iload_n (i := 1) d_Ha_isInside_0 rfl rfl ?_
  refine r_if_lt (tgt := 28) d_Ha_isInside_1 (by decide) (fun hc_1 => ?_) (fun hc_1 => ?_)
  · refine r_iconst d_Ha_isInside_28 ic_0 ?_
    exact J1 _ (((if_pos hc_1).trans rfl)).symm
  · refine r_iload_n (i := 1) d_Ha_isInside_4 rfl rfl ?_
    refine r_aload_n (i := 0) d_Ha_isInside_5 rfl rfl ?_
    refine r_getI (b := 10) (v := hp.1 10 5) d_Ha_isInside_6 fl_Ha_28 (by decide) rfl rfl rfl ?_
    refine r_icmp_gt (tgt := 28) d_Ha_isInside_9 (by decide) (fun hc_9 => ?_) (fun hc_9 => ?_)
    · refine r_iconst d_Ha_isInside_28 ic_0 ?_
      exact J1 _ (((if_neg hc_1).trans ((if_pos hc_9).trans rfl))).symm
    · refine r_iload_n (i := 2) d_Ha_isInside_12 rfl rfl ?_
      refine r_if_lt (tgt := 28) d_Ha_isInside_13 (by decide) (fun hc_13 => ?_) (fun hc_13 => ?_)
      · refine r_iconst d_Ha_isInside_28 ic_0 ?_
        exact J1 _ (((if_neg hc_1).trans ((if_neg hc_9).trans ((if_pos hc_13).trans rfl)))).symm
      · refine r_iload_n (i := 2) d_Ha_isInside_16 rfl rfl ?_
        refine r_aload_n (i := 0) d_Ha_isInside_17 rfl rfl ?_
        refine r_getI (b := 10) (v := hp.1 10 6) d_Ha_isInside_18 fl_Ha_31 (by decide) rfl rfl rfl ?_
        refine r_icmp_gt (tgt := 28) d_Ha_isInside_21 (by decide) (fun hc_21 => ?_) (fun hc_21 => ?_)
        · refine r_iconst d_Ha_isInside_28 ic_0 ?_
          exact J1 _ (((if_neg hc_1).trans ((if_neg hc_9).trans ((if_neg hc_13).trans ((if_pos hc_21).trans rfl))))).symm
        · refine r_iconst d_Ha_isInside_24 ic_1 ?_
          refine r_goto (tgt := 29) d_Ha_isInside_25 (by decide) ?_
          exact J1 _ (((if_neg hc_1).trans ((if_neg hc_9).trans ((if_neg hc_13).trans ((if_neg hc_21).trans rfl))))).symm
def f_Ha_isInside_10 (a1 : Int32) (a2 : Int32) (hp : rx_Hp) : Int32 := ((if a1 < 0 then 0 else ((if (hp.1 10 5) < a1 then 0 else ((if a2 < 0 then 0 else ((if (hp.1 10 6) < a2 then 0 else 1) : Int32)) : Int32)) : Int32)) : Int32)
theorem s_Ha_isInside_10 {G : rx_Gh} {hp : rx_Hp} {F : Int32 → rx_Hp → Prop} (a1 : Int32) (a2 : Int32) (H0 : F (f_Ha_isInside_10 a1 a2 hp) hp) : Ev wC G 1 q_Ha_isInside [.ref 10, .int a1, .int a2] hp (rI F) := by
  have H : ∀ v h, v = (f_Ha_isInside_10 a1 a2 hp) → h = hp → F v h := by rintro _ _ rfl rfl; exact H0
  refine w_Ha_isInside_10 a1 a2  ?_
  exact H _ _ (rfl).symm (rfl).symm
theorem b_Ha_isInside_10 (a1 : Int32) (a2 : Int32) (hp : rx_Hp) : (f_Ha_isInside_10 a1 a2 hp) = 0 ∨ (f_Ha_isInside_10 a1 a2 hp) = 1 := (rb_ite (Or.inl rfl) (rb_ite (Or.inl rfl) (rb_ite (Or.inl rfl) (rb_ite (Or.inl rfl) (Or.inr rfl)))))
set_option maxHeartbeats 4000000 in
set_option maxRecDepth 20000 in
theorem w_Ha_stands_10 {G : rx_Gh} {hp : rx_Hp} {F : Int32 → rx_Hp → Prop}  (H : F ((if (hp.1 10 4) ≤ 0 then 0 else 1) : Int32) hp) : Ev wC G 1 q_Ha_stands [.ref 10] hp (rI F) := by
  refine ev_of rfl (Nat.le_of_ble_eq_true rfl) rfl ?_
  show Rn wC G 1 q_Ha_stands 0 [some (.ref 10)] [] hp (rI F)
  have J4 : ∀ (v4_0 : Int32), v4_0 = ((if (hp.1 10 4) ≤ 0 then 0 else 1) : Int32) → Rn wC G 1 q_Ha_stands 12 [some (.ref 10)] [.int v4_0] hp (rI F) := by
    rintro _ rfl
    exact rZ_ret d_Ha_stands_12 rfl (rb_ite (Or.inl rfl) (Or.inr rfl)) H
  refine r_aload_n (i := 0) d_Ha_stands_0 rfl rfl ?_
  refine r_getI (b := 10) (v := hp.1 10 4) d_Ha_stands_1 fl_Ha_24 (by decide) rfl rfl rfl ?_
  refine r_if_le (tgt := 11) d_Ha_stands_4 (by decide) (fun hc_4 => ?_) (fun hc_4 => ?_)
  · refine r_iconst d_Ha_stands_11 ic_0 ?_
    exact J4 _ (((if_pos hc_4).trans rfl)).symm
  · refine r_iconst d_Ha_stands_7 ic_1 ?_
    refine r_goto (tgt := 12) d_Ha_stands_8 (by decide) ?_
    exact J4 _ (((if_neg hc_4).trans rfl)).symm
def f_Ha_stands_10  (hp : rx_Hp) : Int32 := ((if (hp.1 10 4) ≤ 0 then 0 else 1) : Int32)
theorem s_Ha_stands_10 {G : rx_Gh} {hp : rx_Hp} {F : Int32 → rx_Hp → Prop}  (H0 : F (f_Ha_stands_10 hp) hp) : Ev wC G 1 q_Ha_stands [.ref 10] hp (rI F) := by
  have H : ∀ v h, v = (f_Ha_stands_10 hp) → h = hp → F v h := by rintro _ _ rfl rfl; exact H0
  refine w_Ha_stands_10   ?_
  exact H _ _ (rfl).symm (rfl).symm
theorem b_Ha_stands_10  (hp : rx_Hp) : (f_Ha_stands_10 hp) = 0 ∨ (f_Ha_stands_10 hp) = 1 := (rb_ite (Or.inl rfl) (Or.inr rfl))
set_option maxHeartbeats 4000000 in
set_option maxRecDepth 20000 in
theorem w_Ha_become {G : rx_Gh} {hp : rx_Hp} {F : rx_Hp → Prop}  (H : Rn wC G 1 q_Ha_become 42 [some (.ref 3), some (.ref 10), some (.int 0), none] [] (rx_pf (rx_pf (rx_pf (rx_pf (rx_pf hp 3 4 (hp.1 10 4)) 3 5 (hp.1 10 5)) 3 6 (hp.1 10 6)) 3 7 (hp.1 10 7)) 3 8 (hp.1 10 8)) (rV F)) : Ev wC G 1 q_Ha_become [.ref 3, .ref 10] hp (rV F) := by
  refine ev_of rfl (Nat.le_of_ble_eq_true rfl) rfl ?_
  show Rn wC G 1 q_Ha_become 0 [some (.ref 3), some (.ref 10), none, none] [] hp (rV F)
  refine r_aload_n (i := 0) d_Ha_become_0 rfl rfl ?_
  refine r_aload_n (i := 1) d_Ha_become_1 rfl rfl ?_
  refine r_getI (b := 10) (v := hp.1 10 4) d_Ha_become_2 fl_Ha_24 (by decide) rfl rfl rfl ?_
  refine r_putI (b := 3) d_Ha_become_5 fp_Ha_24 ⟨rfl, rfl⟩ (by decide) rfl rfl ?_
  refine r_aload_n (i := 0) d_Ha_become_8 rfl rfl ?_
  refine r_aload_n (i := 1) d_Ha_become_9 rfl rfl ?_
  refine r_getI (b := 10) (v := hp.1 10 5) d_Ha_become_10 fl_Ha_28 (by decide) rfl rfl rfl ?_
  refine r_putI (b := 3) d_Ha_become_13 fp_Ha_28 ⟨rfl, rfl⟩ (by decide) rfl rfl ?_
  refine r_aload_n (i := 0) d_Ha_become_16 rfl rfl ?_
  refine r_aload_n (i := 1) d_Ha_become_17 rfl rfl ?_
  refine r_getI (b := 10) (v := hp.1 10 6) d_Ha_become_18 fl_Ha_31 (by decide) rfl rfl rfl ?_
  refine r_putI (b := 3) d_Ha_become_21 fp_Ha_31 ⟨rfl, rfl⟩ (by decide) rfl rfl ?_
  refine r_aload_n (i := 0) d_Ha_become_24 rfl rfl ?_
  refine r_aload_n (i := 1) d_Ha_become_25 rfl rfl ?_
  refine r_getI (b := 10) (v := hp.1 10 7) d_Ha_become_26 fl_Ha_34 (by decide) rfl rfl rfl ?_
  refine r_putI (b := 3) d_Ha_become_29 fp_Ha_34 ⟨rfl, rfl⟩ (by decide) rfl rfl ?_
  refine r_aload_n (i := 0) d_Ha_become_32 rfl rfl ?_
  refine r_aload_n (i := 1) d_Ha_become_33 rfl rfl ?_
  refine r_getI (b := 10) (v := hp.1 10 8) d_Ha_become_34 fl_Ha_37 (by decide) rfl rfl rfl ?_
  refine r_putI (b := 3) d_Ha_become_37 fp_Ha_37 ⟨rfl, rfl⟩ (by decide) rfl rfl ?_
  refine r_iconst d_Ha_become_40 ic_0 ?_
  refine r_istore_n (i := 2) (lz := [some (.ref 3), some (.ref 10), some (.int 0), none]) d_Ha_become_41 rfl (by decide) rfl rfl ?_
  exact H
set_option maxHeartbeats 4000000 in
set_option maxRecDepth 20000 in
theorem w_Ha_become_42 {G : rx_Gh} {hp : rx_Hp} {F : rx_Hp → Prop} (x2 : Int32) (H : (6 ≤ x2 → Rn wC G 1 q_Ha_become 95 [some (.ref 3), none, some (.int 1000000), some (.int 0)] [] hp (rV F)) ∧ (¬ 6 ≤ x2 → vp_in x2 6 ∧ (Rn wC G 1 q_Ha_become 42 [some (.ref 3), some (.ref 10), some (.int (x2 + 1)), none] [] (rx_pa (rx_pa (rx_pa hp 4 x2.toNatClampNeg (hp.2.1 11 x2.toNatClampNeg)) 5 x2.toNatClampNeg (hp.2.1 12 x2.toNatClampNeg)) 6 x2.toNatClampNeg (hp.2.1 13 x2.toNatClampNeg)) (rV F)))) : Rn wC G 1 q_Ha_become 42 [some (.ref 3), some (.ref 10), some (.int x2), none] [] hp (rV F) := by
  refine r_iload_n (i := 2) d_Ha_become_42 rfl rfl ?_
  refine r_bipush d_Ha_become_43 bp_6 ?_
  refine r_icmp_ge (tgt := 90) d_Ha_become_45 (by decide) (fun hc_45 => ?_) (fun hc_45 => ?_)
  · replace H := H.1 hc_45
    refine r_ldc d_Ha_become_90 ck_Ha_40 ?_
    refine r_istore_n (i := 2) (lz := [some (.ref 3), some (.ref 10), some (.int 1000000), none]) d_Ha_become_92 rfl (by decide) rfl rfl ?_
    refine r_iconst d_Ha_become_93 ic_0 ?_
    refine r_istore_n (i := 3) (lz := [some (.ref 3), some (.ref 10), some (.int 1000000), some (.int 0)]) d_Ha_become_94 rfl (by decide) rfl rfl ?_
    exact rx_fgt [false, true] H
  · replace H := H.2 hc_45
    refine r_aload_n (i := 0) d_Ha_become_48 rfl rfl ?_
    refine r_getR (b := 3) (r := 4) d_Ha_become_49 fl_Ha_9 (by decide) rfl rfl rfl ?_
    refine r_iload_n (i := 2) d_Ha_become_52 rfl rfl ?_
    refine r_aload_n (i := 1) d_Ha_become_53 rfl rfl ?_
    refine r_getR (b := 10) (r := 11) d_Ha_become_54 fl_Ha_9 (by decide) rfl rfl rfl ?_
    refine r_iload_n (i := 2) d_Ha_become_57 rfl rfl ?_
    obtain ⟨hi_58, H⟩ := H
    refine r_iald (b := 11) (v := hp.2.1 11 x2.toNatClampNeg) d_Ha_become_58 (by decide) rfl hi_58 rfl ?_
    refine r_iast (b := 4) (i := x2.toNatClampNeg) d_Ha_become_59 (by decide) rfl hi_58 rfl ?_
    refine r_aload_n (i := 0) d_Ha_become_60 rfl rfl ?_
    refine r_getR (b := 3) (r := 5) d_Ha_become_61 fl_Ha_15 (by decide) rfl rfl rfl ?_
    refine r_iload_n (i := 2) d_Ha_become_64 rfl rfl ?_
    refine r_aload_n (i := 1) d_Ha_become_65 rfl rfl ?_
    refine r_getR (b := 10) (r := 12) d_Ha_become_66 fl_Ha_15 (by decide) rfl rfl rfl ?_
    refine r_iload_n (i := 2) d_Ha_become_69 rfl rfl ?_
    refine r_iald (b := 12) (v := hp.2.1 12 x2.toNatClampNeg) d_Ha_become_70 (by decide) rfl hi_58 rfl ?_
    refine r_iast (b := 5) (i := x2.toNatClampNeg) d_Ha_become_71 (by decide) rfl hi_58 rfl ?_
    refine r_aload_n (i := 0) d_Ha_become_72 rfl rfl ?_
    refine r_getR (b := 3) (r := 6) d_Ha_become_73 fl_Ha_18 (by decide) rfl rfl rfl ?_
    refine r_iload_n (i := 2) d_Ha_become_76 rfl rfl ?_
    refine r_aload_n (i := 1) d_Ha_become_77 rfl rfl ?_
    refine r_getR (b := 10) (r := 13) d_Ha_become_78 fl_Ha_18 (by decide) rfl rfl rfl ?_
    refine r_iload_n (i := 2) d_Ha_become_81 rfl rfl ?_
    refine r_iald (b := 13) (v := hp.2.1 13 x2.toNatClampNeg) d_Ha_become_82 (by decide) rfl hi_58 rfl ?_
    refine r_iast (b := 6) (i := x2.toNatClampNeg) d_Ha_become_83 (by decide) rfl hi_58 rfl ?_
    refine r_iinc (v := x2 + 1) (lz := [some (.ref 3), some (.ref 10), some (.int (x2 + 1)), none]) d_Ha_become_84 rfl (by rw [ic_1]) (by decide) rfl rfl ?_
    refine r_goto (tgt := 42) d_Ha_become_87 (by decide) ?_
    exact H
set_option maxHeartbeats 4000000 in
set_option maxRecDepth 20000 in
theorem w_Ha_become_95 {G : rx_Gh} {hp : rx_Hp} {F : rx_Hp → Prop} (x2 : Int32) (x3 : Int32) (H : (21 ≤ x3 → F hp) ∧ (¬ 21 ≤ x3 → vp_in x3 21 ∧ (Rn wC G 1 q_Ha_become 95 [some (.ref 3), none, some (.int ((x2 * (100 - (hp.1 3 8))) / 100)), some (.int (x3 + 1))] [] (rx_pa hp 7 x3.toNatClampNeg x2) (rV F)))) : Rn wC G 1 q_Ha_become 95 [some (.ref 3), none, some (.int x2), some (.int x3)] [] hp (rV F) := by
  refine r_iload_n (i := 3) d_Ha_become_95 rfl rfl ?_
  refine r_aload_n (i := 0) d_Ha_become_96 rfl rfl ?_
  refine r_getR (b := 3) (r := 7) d_Ha_become_97 fl_Ha_21 (by decide) rfl rfl rfl ?_
  refine r_alen (b := 7) (n := 21) (v := 21) d_Ha_become_100 (by decide) rfl al_21 ?_
  refine r_icmp_ge (tgt := 130) d_Ha_become_101 (by decide) (fun hc_101 => ?_) (fun hc_101 => ?_)
  · replace H := H.1 hc_101
    exact rV_ret d_Ha_become_130 rfl H
  · replace H := H.2 hc_101
    refine r_aload_n (i := 0) d_Ha_become_104 rfl rfl ?_
    refine r_getR (b := 3) (r := 7) d_Ha_become_105 fl_Ha_21 (by decide) rfl rfl rfl ?_
    refine r_iload_n (i := 3) d_Ha_become_108 rfl rfl ?_
    refine r_iload_n (i := 2) d_Ha_become_109 rfl rfl ?_
    obtain ⟨hi_110, H⟩ := H
    refine r_iast (b := 7) (i := x3.toNatClampNeg) d_Ha_become_110 (by decide) rfl hi_110 rfl ?_
    refine r_iload_n (i := 2) d_Ha_become_111 rfl rfl ?_
    refine r_bipush d_Ha_become_112 bp_100 ?_
    refine r_aload_n (i := 0) d_Ha_become_114 rfl rfl ?_
    refine r_getI (b := 3) (v := hp.1 3 8) d_Ha_become_115 fl_Ha_37 (by decide) rfl rfl rfl ?_
    refine r_isub d_Ha_become_118 ?_
    refine r_imul d_Ha_become_119 ?_
    refine r_bipush d_Ha_become_120 bp_100 ?_
    refine r_idiv d_Ha_become_122 (by decide) ?_
    refine r_istore_n (i := 2) (lz := [some (.ref 3), none, some (.int ((x2 * (100 - (hp.1 3 8))) / 100)), some (.int x3)]) d_Ha_become_123 rfl (by decide) rfl rfl ?_
    refine r_iinc (v := x3 + 1) (lz := [some (.ref 3), none, some (.int ((x2 * (100 - (hp.1 3 8))) / 100)), some (.int (x3 + 1))]) d_Ha_become_124 rfl (by rw [ic_1]) (by decide) rfl rfl ?_
    refine r_goto (tgt := 95) d_Ha_become_127 (by decide) ?_
    exact H
set_option maxHeartbeats 4000000 in
set_option maxRecDepth 20000 in
theorem w_Ha_writeTo_38 {G : rx_Gh} {hp : rx_Hp} {F : rx_Hp → Prop} (a2 : Int32) (H : (a2 < 0 → F hp) ∧ (¬ a2 < 0 → ((a2 + 13) ≤ 520 → Rn wC G 1 q_Ha_writeTo 16 [some (.ref 3), some (.ref 38), some (.int a2), some (.int 0)] [] hp (rV F)) ∧ (¬ (a2 + 13) ≤ 520 → F hp))) : Ev wC G 1 q_Ha_writeTo [.ref 3, .ref 38, .int a2] hp (rV F) := by
  refine ev_of rfl (Nat.le_of_ble_eq_true rfl) rfl ?_
  show Rn wC G 1 q_Ha_writeTo 0 [some (.ref 3), some (.ref 38), some (.int a2), none] [] hp (rV F)
  refine r_iload_n (i := 2) d_Ha_writeTo_0 rfl rfl ?_
  refine r_if_lt (tgt := 13) d_Ha_writeTo_1 (by decide) (fun hc_1 => ?_) (fun hc_1 => ?_)
  · replace H := H.1 hc_1
    exact rV_ret d_Ha_writeTo_13 rfl H
  · replace H := H.2 hc_1
    refine r_iload_n (i := 2) d_Ha_writeTo_4 rfl rfl ?_
    refine r_bipush d_Ha_writeTo_5 bp_13 ?_
    refine r_iadd d_Ha_writeTo_7 ?_
    refine r_aload_n (i := 1) d_Ha_writeTo_8 rfl rfl ?_
    refine r_alen (b := 38) (n := 520) (v := 520) d_Ha_writeTo_9 (by decide) rfl al_520 ?_
    refine r_icmp_le (tgt := 14) d_Ha_writeTo_10 (by decide) (fun hc_10 => ?_) (fun hc_10 => ?_)
    · replace H := H.1 hc_10
      refine r_iconst d_Ha_writeTo_14 ic_0 ?_
      refine r_istore_n (i := 3) (lz := [some (.ref 3), some (.ref 38), some (.int a2), some (.int 0)]) d_Ha_writeTo_15 rfl (by decide) rfl rfl ?_
      exact H
    · replace H := H.2 hc_10
      exact rV_ret d_Ha_writeTo_13 rfl H
set_option maxHeartbeats 4000000 in
set_option maxRecDepth 20000 in
theorem w_Ha_writeTo_38_16 {G : rx_Gh} {hp : rx_Hp} {F : rx_Hp → Prop} (x2 : Int32) (x3 : Int32) (H : (6 ≤ x3 → vp_in ((x2 + 13) - 1) 520 ∧ (F (rx_pa hp 38 (((x2 + 13) - 1).toNatClampNeg) (hp.1 3 7)))) ∧ (¬ 6 ≤ x3 → vp_in x3 6 ∧ (vp_in (x2 + (2 * x3)) 520 ∧ (vp_in ((x2 + (2 * x3)) + 1) 520 ∧ (Rn wC G 1 q_Ha_writeTo 16 [some (.ref 3), some (.ref 38), some (.int x2), some (.int (x3 + 1))] [] (rx_pa (rx_pa hp 38 ((x2 + (2 * x3)).toNatClampNeg) (hp.2.1 4 x3.toNatClampNeg)) 38 (((x2 + (2 * x3)) + 1).toNatClampNeg) (hp.2.1 5 x3.toNatClampNeg)) (rV F)))))) : Rn wC G 1 q_Ha_writeTo 16 [some (.ref 3), some (.ref 38), some (.int x2), some (.int x3)] [] hp (rV F) := by
  refine r_iload_n (i := 3) d_Ha_writeTo_16 rfl rfl ?_
  refine r_bipush d_Ha_writeTo_17 bp_6 ?_
  refine r_icmp_ge (tgt := 56) d_Ha_writeTo_19 (by decide) (fun hc_19 => ?_) (fun hc_19 => ?_)
  · replace H := H.1 hc_19
    refine r_aload_n (i := 1) d_Ha_writeTo_56 rfl rfl ?_
    refine r_iload_n (i := 2) d_Ha_writeTo_57 rfl rfl ?_
    refine r_bipush d_Ha_writeTo_58 bp_13 ?_
    refine r_iadd d_Ha_writeTo_60 ?_
    refine r_iconst d_Ha_writeTo_61 ic_1 ?_
    refine r_isub d_Ha_writeTo_62 ?_
    refine r_aload_n (i := 0) d_Ha_writeTo_63 rfl rfl ?_
    refine r_getI (b := 3) (v := hp.1 3 7) d_Ha_writeTo_64 fl_Ha_34 (by decide) rfl rfl rfl ?_
    obtain ⟨hi_67, H⟩ := H
    refine r_iast (b := 38) (i := ((x2 + 13) - 1).toNatClampNeg) d_Ha_writeTo_67 (by decide) rfl hi_67 rfl ?_
    exact rV_ret d_Ha_writeTo_68 rfl H
  · replace H := H.2 hc_19
    refine r_aload_n (i := 1) d_Ha_writeTo_22 rfl rfl ?_
    refine r_iload_n (i := 2) d_Ha_writeTo_23 rfl rfl ?_
    refine r_iconst d_Ha_writeTo_24 ic_2 ?_
    refine r_iload_n (i := 3) d_Ha_writeTo_25 rfl rfl ?_
    refine r_imul d_Ha_writeTo_26 ?_
    refine r_iadd d_Ha_writeTo_27 ?_
    refine r_aload_n (i := 0) d_Ha_writeTo_28 rfl rfl ?_
    refine r_getR (b := 3) (r := 4) d_Ha_writeTo_29 fl_Ha_9 (by decide) rfl rfl rfl ?_
    refine r_iload_n (i := 3) d_Ha_writeTo_32 rfl rfl ?_
    obtain ⟨hi_33, H⟩ := H
    refine r_iald (b := 4) (v := hp.2.1 4 x3.toNatClampNeg) d_Ha_writeTo_33 (by decide) rfl hi_33 rfl ?_
    obtain ⟨hi_34, H⟩ := H
    refine r_iast (b := 38) (i := (x2 + (2 * x3)).toNatClampNeg) d_Ha_writeTo_34 (by decide) rfl hi_34 rfl ?_
    refine r_aload_n (i := 1) d_Ha_writeTo_35 rfl rfl ?_
    refine r_iload_n (i := 2) d_Ha_writeTo_36 rfl rfl ?_
    refine r_iconst d_Ha_writeTo_37 ic_2 ?_
    refine r_iload_n (i := 3) d_Ha_writeTo_38 rfl rfl ?_
    refine r_imul d_Ha_writeTo_39 ?_
    refine r_iadd d_Ha_writeTo_40 ?_
    refine r_iconst d_Ha_writeTo_41 ic_1 ?_
    refine r_iadd d_Ha_writeTo_42 ?_
    refine r_aload_n (i := 0) d_Ha_writeTo_43 rfl rfl ?_
    refine r_getR (b := 3) (r := 5) d_Ha_writeTo_44 fl_Ha_15 (by decide) rfl rfl rfl ?_
    refine r_iload_n (i := 3) d_Ha_writeTo_47 rfl rfl ?_
    refine r_iald (b := 5) (v := hp.2.1 5 x3.toNatClampNeg) d_Ha_writeTo_48 (by decide) rfl hi_33 rfl ?_
    obtain ⟨hi_49, H⟩ := H
    refine r_iast (b := 38) (i := ((x2 + (2 * x3)) + 1).toNatClampNeg) d_Ha_writeTo_49 (by decide) rfl hi_49 rfl ?_
    refine r_iinc (v := x3 + 1) (lz := [some (.ref 3), some (.ref 38), some (.int x2), some (.int (x3 + 1))]) d_Ha_writeTo_50 rfl (by rw [ic_1]) (by decide) rfl rfl ?_
    refine r_goto (tgt := 16) d_Ha_writeTo_53 (by decide) ?_
    exact H
set_option maxHeartbeats 4000000 in
set_option maxRecDepth 20000 in
theorem w_Ha_writeTo_39 {G : rx_Gh} {hp : rx_Hp} {F : rx_Hp → Prop} (a2 : Int32) (H : (a2 < 0 → F hp) ∧ (¬ a2 < 0 → ((a2 + 13) ≤ 13 → Rn wC G 1 q_Ha_writeTo 16 [some (.ref 3), some (.ref 39), some (.int a2), some (.int 0)] [] hp (rV F)) ∧ (¬ (a2 + 13) ≤ 13 → F hp))) : Ev wC G 1 q_Ha_writeTo [.ref 3, .ref 39, .int a2] hp (rV F) := by
  refine ev_of rfl (Nat.le_of_ble_eq_true rfl) rfl ?_
  show Rn wC G 1 q_Ha_writeTo 0 [some (.ref 3), some (.ref 39), some (.int a2), none] [] hp (rV F)
  refine r_iload_n (i := 2) d_Ha_writeTo_0 rfl rfl ?_
  refine r_if_lt (tgt := 13) d_Ha_writeTo_1 (by decide) (fun hc_1 => ?_) (fun hc_1 => ?_)
  · replace H := H.1 hc_1
    exact rV_ret d_Ha_writeTo_13 rfl H
  · replace H := H.2 hc_1
    refine r_iload_n (i := 2) d_Ha_writeTo_4 rfl rfl ?_
    refine r_bipush d_Ha_writeTo_5 bp_13 ?_
    refine r_iadd d_Ha_writeTo_7 ?_
    refine r_aload_n (i := 1) d_Ha_writeTo_8 rfl rfl ?_
    refine r_alen (b := 39) (n := 13) (v := 13) d_Ha_writeTo_9 (by decide) rfl al_13 ?_
    refine r_icmp_le (tgt := 14) d_Ha_writeTo_10 (by decide) (fun hc_10 => ?_) (fun hc_10 => ?_)
    · replace H := H.1 hc_10
      refine r_iconst d_Ha_writeTo_14 ic_0 ?_
      refine r_istore_n (i := 3) (lz := [some (.ref 3), some (.ref 39), some (.int a2), some (.int 0)]) d_Ha_writeTo_15 rfl (by decide) rfl rfl ?_
      exact H
    · replace H := H.2 hc_10
      exact rV_ret d_Ha_writeTo_13 rfl H
set_option maxHeartbeats 4000000 in
set_option maxRecDepth 20000 in
theorem w_Ha_writeTo_39_16 {G : rx_Gh} {hp : rx_Hp} {F : rx_Hp → Prop} (x2 : Int32) (x3 : Int32) (H : (6 ≤ x3 → vp_in ((x2 + 13) - 1) 13 ∧ (F (rx_pa hp 39 (((x2 + 13) - 1).toNatClampNeg) (hp.1 3 7)))) ∧ (¬ 6 ≤ x3 → vp_in x3 6 ∧ (vp_in (x2 + (2 * x3)) 13 ∧ (vp_in ((x2 + (2 * x3)) + 1) 13 ∧ (Rn wC G 1 q_Ha_writeTo 16 [some (.ref 3), some (.ref 39), some (.int x2), some (.int (x3 + 1))] [] (rx_pa (rx_pa hp 39 ((x2 + (2 * x3)).toNatClampNeg) (hp.2.1 4 x3.toNatClampNeg)) 39 (((x2 + (2 * x3)) + 1).toNatClampNeg) (hp.2.1 5 x3.toNatClampNeg)) (rV F)))))) : Rn wC G 1 q_Ha_writeTo 16 [some (.ref 3), some (.ref 39), some (.int x2), some (.int x3)] [] hp (rV F) := by
  refine r_iload_n (i := 3) d_Ha_writeTo_16 rfl rfl ?_
  refine r_bipush d_Ha_writeTo_17 bp_6 ?_
  refine r_icmp_ge (tgt := 56) d_Ha_writeTo_19 (by decide) (fun hc_19 => ?_) (fun hc_19 => ?_)
  · replace H := H.1 hc_19
    refine r_aload_n (i := 1) d_Ha_writeTo_56 rfl rfl ?_
    refine r_iload_n (i := 2) d_Ha_writeTo_57 rfl rfl ?_
    refine r_bipush d_Ha_writeTo_58 bp_13 ?_
    refine r_iadd d_Ha_writeTo_60 ?_
    refine r_iconst d_Ha_writeTo_61 ic_1 ?_
    refine r_isub d_Ha_writeTo_62 ?_
    refine r_aload_n (i := 0) d_Ha_writeTo_63 rfl rfl ?_
    refine r_getI (b := 3) (v := hp.1 3 7) d_Ha_writeTo_64 fl_Ha_34 (by decide) rfl rfl rfl ?_
    obtain ⟨hi_67, H⟩ := H
    refine r_iast (b := 39) (i := ((x2 + 13) - 1).toNatClampNeg) d_Ha_writeTo_67 (by decide) rfl hi_67 rfl ?_
    exact rV_ret d_Ha_writeTo_68 rfl H
  · replace H := H.2 hc_19
    refine r_aload_n (i := 1) d_Ha_writeTo_22 rfl rfl ?_
    refine r_iload_n (i := 2) d_Ha_writeTo_23 rfl rfl ?_
    refine r_iconst d_Ha_writeTo_24 ic_2 ?_
    refine r_iload_n (i := 3) d_Ha_writeTo_25 rfl rfl ?_
    refine r_imul d_Ha_writeTo_26 ?_
    refine r_iadd d_Ha_writeTo_27 ?_
    refine r_aload_n (i := 0) d_Ha_writeTo_28 rfl rfl ?_
    refine r_getR (b := 3) (r := 4) d_Ha_writeTo_29 fl_Ha_9 (by decide) rfl rfl rfl ?_
    refine r_iload_n (i := 3) d_Ha_writeTo_32 rfl rfl ?_
    obtain ⟨hi_33, H⟩ := H
    refine r_iald (b := 4) (v := hp.2.1 4 x3.toNatClampNeg) d_Ha_writeTo_33 (by decide) rfl hi_33 rfl ?_
    obtain ⟨hi_34, H⟩ := H
    refine r_iast (b := 39) (i := (x2 + (2 * x3)).toNatClampNeg) d_Ha_writeTo_34 (by decide) rfl hi_34 rfl ?_
    refine r_aload_n (i := 1) d_Ha_writeTo_35 rfl rfl ?_
    refine r_iload_n (i := 2) d_Ha_writeTo_36 rfl rfl ?_
    refine r_iconst d_Ha_writeTo_37 ic_2 ?_
    refine r_iload_n (i := 3) d_Ha_writeTo_38 rfl rfl ?_
    refine r_imul d_Ha_writeTo_39 ?_
    refine r_iadd d_Ha_writeTo_40 ?_
    refine r_iconst d_Ha_writeTo_41 ic_1 ?_
    refine r_iadd d_Ha_writeTo_42 ?_
    refine r_aload_n (i := 0) d_Ha_writeTo_43 rfl rfl ?_
    refine r_getR (b := 3) (r := 5) d_Ha_writeTo_44 fl_Ha_15 (by decide) rfl rfl rfl ?_
    refine r_iload_n (i := 3) d_Ha_writeTo_47 rfl rfl ?_
    refine r_iald (b := 5) (v := hp.2.1 5 x3.toNatClampNeg) d_Ha_writeTo_48 (by decide) rfl hi_33 rfl ?_
    obtain ⟨hi_49, H⟩ := H
    refine r_iast (b := 39) (i := ((x2 + (2 * x3)) + 1).toNatClampNeg) d_Ha_writeTo_49 (by decide) rfl hi_49 rfl ?_
    refine r_iinc (v := x3 + 1) (lz := [some (.ref 3), some (.ref 39), some (.int x2), some (.int (x3 + 1))]) d_Ha_writeTo_50 rfl (by rw [ic_1]) (by decide) rfl rfl ?_
    refine r_goto (tgt := 16) d_Ha_writeTo_53 (by decide) ?_
    exact H
set_option maxHeartbeats 4000000 in
set_option maxRecDepth 20000 in
theorem w_Ha_readFrom_38 {G : rx_Gh} {hp : rx_Hp} {F : rx_Hp → Prop} (a2 : Int32) (H : (a2 < 0 → F hp) ∧ (¬ a2 < 0 → ((a2 + 13) ≤ 520 → Rn wC G 1 q_Ha_readFrom 16 [some (.ref 3), some (.ref 38), some (.int a2), some (.int 0)] [] hp (rV F)) ∧ (¬ (a2 + 13) ≤ 520 → F hp))) : Ev wC G 1 q_Ha_readFrom [.ref 3, .ref 38, .int a2] hp (rV F) := by
  refine ev_of rfl (Nat.le_of_ble_eq_true rfl) rfl ?_
  show Rn wC G 1 q_Ha_readFrom 0 [some (.ref 3), some (.ref 38), some (.int a2), none] [] hp (rV F)
  refine r_iload_n (i := 2) d_Ha_readFrom_0 rfl rfl ?_
  refine r_if_lt (tgt := 13) d_Ha_readFrom_1 (by decide) (fun hc_1 => ?_) (fun hc_1 => ?_)
  · replace H := H.1 hc_1
    exact rV_ret d_Ha_readFrom_13 rfl H
  · replace H := H.2 hc_1
    refine r_iload_n (i := 2) d_Ha_readFrom_4 rfl rfl ?_
    refine r_bipush d_Ha_readFrom_5 bp_13 ?_
    refine r_iadd d_Ha_readFrom_7 ?_
    refine r_aload_n (i := 1) d_Ha_readFrom_8 rfl rfl ?_
    refine r_alen (b := 38) (n := 520) (v := 520) d_Ha_readFrom_9 (by decide) rfl al_520 ?_
    refine r_icmp_le (tgt := 14) d_Ha_readFrom_10 (by decide) (fun hc_10 => ?_) (fun hc_10 => ?_)
    · replace H := H.1 hc_10
      refine r_iconst d_Ha_readFrom_14 ic_0 ?_
      refine r_istore_n (i := 3) (lz := [some (.ref 3), some (.ref 38), some (.int a2), some (.int 0)]) d_Ha_readFrom_15 rfl (by decide) rfl rfl ?_
      exact H
    · replace H := H.2 hc_10
      exact rV_ret d_Ha_readFrom_13 rfl H
set_option maxHeartbeats 4000000 in
set_option maxRecDepth 20000 in
theorem w_Ha_readFrom_38_16 {G : rx_Gh} {hp : rx_Hp} {F : rx_Hp → Prop} (x2 : Int32) (x3 : Int32) (H : (6 ≤ x3 → vp_in ((x2 + 13) - 1) 520 ∧ (F (rx_pf hp 3 7 (hp.2.1 38 ((x2 + 13) - 1).toNatClampNeg)))) ∧ (¬ 6 ≤ x3 → vp_in (x2 + (2 * x3)) 520 ∧ (vp_in x3 6 ∧ (vp_in ((x2 + (2 * x3)) + 1) 520 ∧ (Rn wC G 1 q_Ha_readFrom 16 [some (.ref 3), some (.ref 38), some (.int x2), some (.int (x3 + 1))] [] (rx_pa (rx_pa hp 4 x3.toNatClampNeg (hp.2.1 38 (x2 + (2 * x3)).toNatClampNeg)) 5 x3.toNatClampNeg (hp.2.1 38 ((x2 + (2 * x3)) + 1).toNatClampNeg)) (rV F)))))) : Rn wC G 1 q_Ha_readFrom 16 [some (.ref 3), some (.ref 38), some (.int x2), some (.int x3)] [] hp (rV F) := by
  refine r_iload_n (i := 3) d_Ha_readFrom_16 rfl rfl ?_
  refine r_bipush d_Ha_readFrom_17 bp_6 ?_
  refine r_icmp_ge (tgt := 56) d_Ha_readFrom_19 (by decide) (fun hc_19 => ?_) (fun hc_19 => ?_)
  · replace H := H.1 hc_19
    refine r_aload_n (i := 0) d_Ha_readFrom_56 rfl rfl ?_
    refine r_aload_n (i := 1) d_Ha_readFrom_57 rfl rfl ?_
    refine r_iload_n (i := 2) d_Ha_readFrom_58 rfl rfl ?_
    refine r_bipush d_Ha_readFrom_59 bp_13 ?_
    refine r_iadd d_Ha_readFrom_61 ?_
    refine r_iconst d_Ha_readFrom_62 ic_1 ?_
    refine r_isub d_Ha_readFrom_63 ?_
    obtain ⟨hi_64, H⟩ := H
    refine r_iald (b := 38) (v := hp.2.1 38 ((x2 + 13) - 1).toNatClampNeg) d_Ha_readFrom_64 (by decide) rfl hi_64 rfl ?_
    refine r_putI (b := 3) d_Ha_readFrom_65 fp_Ha_34 ⟨rfl, rfl⟩ (by decide) rfl rfl ?_
    exact rV_ret d_Ha_readFrom_68 rfl H
  · replace H := H.2 hc_19
    refine r_aload_n (i := 0) d_Ha_readFrom_22 rfl rfl ?_
    refine r_getR (b := 3) (r := 4) d_Ha_readFrom_23 fl_Ha_9 (by decide) rfl rfl rfl ?_
    refine r_iload_n (i := 3) d_Ha_readFrom_26 rfl rfl ?_
    refine r_aload_n (i := 1) d_Ha_readFrom_27 rfl rfl ?_
    refine r_iload_n (i := 2) d_Ha_readFrom_28 rfl rfl ?_
    refine r_iconst d_Ha_readFrom_29 ic_2 ?_
    refine r_iload_n (i := 3) d_Ha_readFrom_30 rfl rfl ?_
    refine r_imul d_Ha_readFrom_31 ?_
    refine r_iadd d_Ha_readFrom_32 ?_
    obtain ⟨hi_33, H⟩ := H
    refine r_iald (b := 38) (v := hp.2.1 38 (x2 + (2 * x3)).toNatClampNeg) d_Ha_readFrom_33 (by decide) rfl hi_33 rfl ?_
    obtain ⟨hi_34, H⟩ := H
    refine r_iast (b := 4) (i := x3.toNatClampNeg) d_Ha_readFrom_34 (by decide) rfl hi_34 rfl ?_
    refine r_aload_n (i := 0) d_Ha_readFrom_35 rfl rfl ?_
    refine r_getR (b := 3) (r := 5) d_Ha_readFrom_36 fl_Ha_15 (by decide) rfl rfl rfl ?_
    refine r_iload_n (i := 3) d_Ha_readFrom_39 rfl rfl ?_
    refine r_aload_n (i := 1) d_Ha_readFrom_40 rfl rfl ?_
    refine r_iload_n (i := 2) d_Ha_readFrom_41 rfl rfl ?_
    refine r_iconst d_Ha_readFrom_42 ic_2 ?_
    refine r_iload_n (i := 3) d_Ha_readFrom_43 rfl rfl ?_
    refine r_imul d_Ha_readFrom_44 ?_
    refine r_iadd d_Ha_readFrom_45 ?_
    refine r_iconst d_Ha_readFrom_46 ic_1 ?_
    refine r_iadd d_Ha_readFrom_47 ?_
    obtain ⟨hi_48, H⟩ := H
    refine r_iald (b := 38) (v := hp.2.1 38 ((x2 + (2 * x3)) + 1).toNatClampNeg) d_Ha_readFrom_48 (by decide) rfl hi_48 rfl ?_
    refine r_iast (b := 5) (i := x3.toNatClampNeg) d_Ha_readFrom_49 (by decide) rfl hi_34 rfl ?_
    refine r_iinc (v := x3 + 1) (lz := [some (.ref 3), some (.ref 38), some (.int x2), some (.int (x3 + 1))]) d_Ha_readFrom_50 rfl (by rw [ic_1]) (by decide) rfl rfl ?_
    refine r_goto (tgt := 16) d_Ha_readFrom_53 (by decide) ?_
    exact H
set_option maxHeartbeats 4000000 in
set_option maxRecDepth 20000 in
theorem w_Ha_readFrom_39 {G : rx_Gh} {hp : rx_Hp} {F : rx_Hp → Prop} (a2 : Int32) (H : (a2 < 0 → F hp) ∧ (¬ a2 < 0 → ((a2 + 13) ≤ 13 → Rn wC G 1 q_Ha_readFrom 16 [some (.ref 3), some (.ref 39), some (.int a2), some (.int 0)] [] hp (rV F)) ∧ (¬ (a2 + 13) ≤ 13 → F hp))) : Ev wC G 1 q_Ha_readFrom [.ref 3, .ref 39, .int a2] hp (rV F) := by
  refine ev_of rfl (Nat.le_of_ble_eq_true rfl) rfl ?_
  show Rn wC G 1 q_Ha_readFrom 0 [some (.ref 3), some (.ref 39), some (.int a2), none] [] hp (rV F)
  refine r_iload_n (i := 2) d_Ha_readFrom_0 rfl rfl ?_
  refine r_if_lt (tgt := 13) d_Ha_readFrom_1 (by decide) (fun hc_1 => ?_) (fun hc_1 => ?_)
  · replace H := H.1 hc_1
    exact rV_ret d_Ha_readFrom_13 rfl H
  · replace H := H.2 hc_1
    refine r_iload_n (i := 2) d_Ha_readFrom_4 rfl rfl ?_
    refine r_bipush d_Ha_readFrom_5 bp_13 ?_
    refine r_iadd d_Ha_readFrom_7 ?_
    refine r_aload_n (i := 1) d_Ha_readFrom_8 rfl rfl ?_
    refine r_alen (b := 39) (n := 13) (v := 13) d_Ha_readFrom_9 (by decide) rfl al_13 ?_
    refine r_icmp_le (tgt := 14) d_Ha_readFrom_10 (by decide) (fun hc_10 => ?_) (fun hc_10 => ?_)
    · replace H := H.1 hc_10
      refine r_iconst d_Ha_readFrom_14 ic_0 ?_
      refine r_istore_n (i := 3) (lz := [some (.ref 3), some (.ref 39), some (.int a2), some (.int 0)]) d_Ha_readFrom_15 rfl (by decide) rfl rfl ?_
      exact H
    · replace H := H.2 hc_10
      exact rV_ret d_Ha_readFrom_13 rfl H
set_option maxHeartbeats 4000000 in
set_option maxRecDepth 20000 in
theorem w_Ha_readFrom_39_16 {G : rx_Gh} {hp : rx_Hp} {F : rx_Hp → Prop} (x2 : Int32) (x3 : Int32) (H : (6 ≤ x3 → vp_in ((x2 + 13) - 1) 13 ∧ (F (rx_pf hp 3 7 (hp.2.1 39 ((x2 + 13) - 1).toNatClampNeg)))) ∧ (¬ 6 ≤ x3 → vp_in (x2 + (2 * x3)) 13 ∧ (vp_in x3 6 ∧ (vp_in ((x2 + (2 * x3)) + 1) 13 ∧ (Rn wC G 1 q_Ha_readFrom 16 [some (.ref 3), some (.ref 39), some (.int x2), some (.int (x3 + 1))] [] (rx_pa (rx_pa hp 4 x3.toNatClampNeg (hp.2.1 39 (x2 + (2 * x3)).toNatClampNeg)) 5 x3.toNatClampNeg (hp.2.1 39 ((x2 + (2 * x3)) + 1).toNatClampNeg)) (rV F)))))) : Rn wC G 1 q_Ha_readFrom 16 [some (.ref 3), some (.ref 39), some (.int x2), some (.int x3)] [] hp (rV F) := by
  refine r_iload_n (i := 3) d_Ha_readFrom_16 rfl rfl ?_
  refine r_bipush d_Ha_readFrom_17 bp_6 ?_
  refine r_icmp_ge (tgt := 56) d_Ha_readFrom_19 (by decide) (fun hc_19 => ?_) (fun hc_19 => ?_)
  · replace H := H.1 hc_19
    refine r_aload_n (i := 0) d_Ha_readFrom_56 rfl rfl ?_
    refine r_aload_n (i := 1) d_Ha_readFrom_57 rfl rfl ?_
    refine r_iload_n (i := 2) d_Ha_readFrom_58 rfl rfl ?_
    refine r_bipush d_Ha_readFrom_59 bp_13 ?_
    refine r_iadd d_Ha_readFrom_61 ?_
    refine r_iconst d_Ha_readFrom_62 ic_1 ?_
    refine r_isub d_Ha_readFrom_63 ?_
    obtain ⟨hi_64, H⟩ := H
    refine r_iald (b := 39) (v := hp.2.1 39 ((x2 + 13) - 1).toNatClampNeg) d_Ha_readFrom_64 (by decide) rfl hi_64 rfl ?_
    refine r_putI (b := 3) d_Ha_readFrom_65 fp_Ha_34 ⟨rfl, rfl⟩ (by decide) rfl rfl ?_
    exact rV_ret d_Ha_readFrom_68 rfl H
  · replace H := H.2 hc_19
    refine r_aload_n (i := 0) d_Ha_readFrom_22 rfl rfl ?_
    refine r_getR (b := 3) (r := 4) d_Ha_readFrom_23 fl_Ha_9 (by decide) rfl rfl rfl ?_
    refine r_iload_n (i := 3) d_Ha_readFrom_26 rfl rfl ?_
    refine r_aload_n (i := 1) d_Ha_readFrom_27 rfl rfl ?_
    refine r_iload_n (i := 2) d_Ha_readFrom_28 rfl rfl ?_
    refine r_iconst d_Ha_readFrom_29 ic_2 ?_
    refine r_iload_n (i := 3) d_Ha_readFrom_30 rfl rfl ?_
    refine r_imul d_Ha_readFrom_31 ?_
    refine r_iadd d_Ha_readFrom_32 ?_
    obtain ⟨hi_33, H⟩ := H
    refine r_iald (b := 39) (v := hp.2.1 39 (x2 + (2 * x3)).toNatClampNeg) d_Ha_readFrom_33 (by decide) rfl hi_33 rfl ?_
    obtain ⟨hi_34, H⟩ := H
    refine r_iast (b := 4) (i := x3.toNatClampNeg) d_Ha_readFrom_34 (by decide) rfl hi_34 rfl ?_
    refine r_aload_n (i := 0) d_Ha_readFrom_35 rfl rfl ?_
    refine r_getR (b := 3) (r := 5) d_Ha_readFrom_36 fl_Ha_15 (by decide) rfl rfl rfl ?_
    refine r_iload_n (i := 3) d_Ha_readFrom_39 rfl rfl ?_
    refine r_aload_n (i := 1) d_Ha_readFrom_40 rfl rfl ?_
    refine r_iload_n (i := 2) d_Ha_readFrom_41 rfl rfl ?_
    refine r_iconst d_Ha_readFrom_42 ic_2 ?_
    refine r_iload_n (i := 3) d_Ha_readFrom_43 rfl rfl ?_
    refine r_imul d_Ha_readFrom_44 ?_
    refine r_iadd d_Ha_readFrom_45 ?_
    refine r_iconst d_Ha_readFrom_46 ic_1 ?_
    refine r_iadd d_Ha_readFrom_47 ?_
    obtain ⟨hi_48, H⟩ := H
    refine r_iald (b := 39) (v := hp.2.1 39 ((x2 + (2 * x3)) + 1).toNatClampNeg) d_Ha_readFrom_48 (by decide) rfl hi_48 rfl ?_
    refine r_iast (b := 5) (i := x3.toNatClampNeg) d_Ha_readFrom_49 (by decide) rfl hi_34 rfl ?_
    refine r_iinc (v := x3 + 1) (lz := [some (.ref 3), some (.ref 39), some (.int x2), some (.int (x3 + 1))]) d_Ha_readFrom_50 rfl (by rw [ic_1]) (by decide) rfl rfl ?_
    refine r_goto (tgt := 16) d_Ha_readFrom_53 (by decide) ?_
    exact H

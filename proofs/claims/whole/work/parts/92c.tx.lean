theorem d_GR_freeLight_0 : decode q_GR_freeLight.2.1 0 = .ok (.aload_n 0, 1) := by decide +kernel
theorem d_GR_freeLight_1 : decode q_GR_freeLight.2.1 1 = .ok (.getfield 100, 3) := by decide +kernel
theorem d_GR_freeLight_4 : decode q_GR_freeLight.2.1 4 = .ok (.ifCond .lt 27, 3) := by decide +kernel
theorem d_GR_freeLight_31 : decode q_GR_freeLight.2.1 31 = .ok (.aconst_null, 1) := by decide +kernel
theorem d_GR_freeLight_7 : decode q_GR_freeLight.2.1 7 = .ok (.aload_n 0, 1) := by decide +kernel
theorem d_GR_freeLight_8 : decode q_GR_freeLight.2.1 8 = .ok (.getfield 100, 3) := by decide +kernel
theorem d_GR_freeLight_11 : decode q_GR_freeLight.2.1 11 = .ok (.aload_n 0, 1) := by decide +kernel
theorem d_GR_freeLight_12 : decode q_GR_freeLight.2.1 12 = .ok (.getfield 41, 3) := by decide +kernel
theorem fl_GR_41 : rx_F "GlassRoom" 41 11 4 := ⟨(RX11, TX11, 17), rfl, by decide, (rx_s2 103 rfl rfl), rx_T11⟩
theorem d_GR_freeLight_15 : decode q_GR_freeLight.2.1 15 = .ok (.arraylength, 1) := by decide +kernel
theorem al_5 : Int32.ofNat 5 = (5 : Int32) := by decide
theorem d_GR_freeLight_16 : decode q_GR_freeLight.2.1 16 = .ok (.if_icmp .ge 15, 3) := by decide +kernel
theorem d_GR_freeLight_19 : decode q_GR_freeLight.2.1 19 = .ok (.aload_n 0, 1) := by decide +kernel
theorem d_GR_freeLight_20 : decode q_GR_freeLight.2.1 20 = .ok (.getfield 41, 3) := by decide +kernel
theorem d_GR_freeLight_23 : decode q_GR_freeLight.2.1 23 = .ok (.aload_n 0, 1) := by decide +kernel
theorem d_GR_freeLight_24 : decode q_GR_freeLight.2.1 24 = .ok (.getfield 100, 3) := by decide +kernel
theorem d_GR_freeLight_32 : decode q_GR_freeLight.2.1 32 = .ok (.areturn, 1) := by decide +kernel
theorem d_GR_freeLight_27 : decode q_GR_freeLight.2.1 27 = .ok (.aaload, 1) := by decide +kernel
theorem d_GR_freeLight_28 : decode q_GR_freeLight.2.1 28 = .ok (.goto 4, 3) := by decide +kernel
theorem d_GR_fault_0 : decode q_GR_fault.2.1 0 = .ok (.iload_n 1, 1) := by decide +kernel
theorem d_GR_fault_1 : decode q_GR_fault.2.1 1 = .ok (.ifCond .ne 11, 3) := by decide +kernel
theorem d_GR_fault_4 : decode q_GR_fault.2.1 4 = .ok (.aload_n 0, 1) := by decide +kernel
theorem d_GR_fault_5 : decode q_GR_fault.2.1 5 = .ok (.getfield 28, 3) := by decide +kernel
theorem fl_GR_28 : rx_F "GlassRoom" 28 11 2 := ⟨(RX11, TX11, 17), rfl, by decide, (rx_s2 101 rfl rfl), rx_T11⟩
theorem d_GR_fault_8 : decode q_GR_fault.2.1 8 = .ok (.invokevirtual 122, 3) := by decide +kernel
theorem ml_GR_122 : rx_CV "GlassRoom" 122 q_HR_read 0 := ⟨⟨(rx_s2 170 rfl rfl), (rx_s2 171 rfl rfl), (rx_s2 172 rfl rfl)⟩, ⟨(rx_s1 4 rfl rfl), q_HR_read_k, ⟨by decide, by decide, by decide +kernel⟩, by decide⟩⟩
theorem d_GR_fault_11 : decode q_GR_fault.2.1 11 = .ok (.ireturn, 1) := by decide +kernel
theorem d_GR_fault_12 : decode q_GR_fault.2.1 12 = .ok (.iload_n 1, 1) := by decide +kernel
theorem d_GR_fault_13 : decode q_GR_fault.2.1 13 = .ok (.iconst 1, 1) := by decide +kernel
theorem d_GR_fault_14 : decode q_GR_fault.2.1 14 = .ok (.if_icmp .ne 15, 3) := by decide +kernel
theorem d_GR_fault_17 : decode q_GR_fault.2.1 17 = .ok (.aload_n 0, 1) := by decide +kernel
theorem d_GR_fault_18 : decode q_GR_fault.2.1 18 = .ok (.getfield 35, 3) := by decide +kernel
theorem fl_GR_35 : rx_F "GlassRoom" 35 11 3 := ⟨(RX11, TX11, 17), rfl, by decide, (rx_s2 102 rfl rfl), rx_T11⟩
theorem d_GR_fault_21 : decode q_GR_fault.2.1 21 = .ok (.aload_n 0, 1) := by decide +kernel
theorem d_GR_fault_22 : decode q_GR_fault.2.1 22 = .ok (.invokevirtual 126, 3) := by decide +kernel
theorem ml_GR_126 : rx_CV "GlassRoom" 126 q_GR_freeLight 0 := ⟨⟨(rx_s3 66 rfl rfl), (rx_s3 68 rfl rfl), (rx_s0 5 rfl rfl)⟩, ⟨(rx_s1 1 rfl rfl), q_GR_freeLight_k, ⟨by decide, by decide, by decide +kernel⟩, by decide⟩⟩
theorem d_GR_fault_25 : decode q_GR_fault.2.1 25 = .ok (.invokevirtual 130, 3) := by decide +kernel
theorem ml_GR_130 : rx_CV "GlassRoom" 130 q_LR_read 1 := ⟨⟨(rx_s3 70 rfl rfl), (rx_s3 71 rfl rfl), (rx_s3 72 rfl rfl)⟩, ⟨(rx_s1 5 rfl rfl), q_LR_read_k, ⟨by decide, by decide, by decide +kernel⟩, by decide⟩⟩
theorem d_GR_fault_28 : decode q_GR_fault.2.1 28 = .ok (.ireturn, 1) := by decide +kernel
theorem d_GR_fault_29 : decode q_GR_fault.2.1 29 = .ok (.bipush (-2), 2) := by decide +kernel
theorem d_GR_fault_31 : decode q_GR_fault.2.1 31 = .ok (.ireturn, 1) := by decide +kernel
theorem d_GR_text_0 : decode q_GR_text.2.1 0 = .ok (.iload_n 1, 1) := by decide +kernel
theorem d_GR_text_1 : decode q_GR_text.2.1 1 = .ok (.ifCond .ne 65, 3) := by decide +kernel
theorem d_GR_text_4 : decode q_GR_text.2.1 4 = .ok (.aload_n 0, 1) := by decide +kernel
theorem d_GR_text_5 : decode q_GR_text.2.1 5 = .ok (.getfield 28, 3) := by decide +kernel
theorem d_GR_text_8 : decode q_GR_text.2.1 8 = .ok (.invokevirtual 122, 3) := by decide +kernel
theorem d_GR_text_11 : decode q_GR_text.2.1 11 = .ok (.iconst (-1), 1) := by decide +kernel
theorem d_GR_text_12 : decode q_GR_text.2.1 12 = .ok (.if_icmp .ne 54, 3) := by decide +kernel
theorem d_GR_text_15 : decode q_GR_text.2.1 15 = .ok (.aload_n 0, 1) := by decide +kernel
theorem d_GR_text_16 : decode q_GR_text.2.1 16 = .ok (.getfield 19, 3) := by decide +kernel
theorem d_GR_text_19 : decode q_GR_text.2.1 19 = .ok (.aload_n 0, 1) := by decide +kernel
theorem d_GR_text_20 : decode q_GR_text.2.1 20 = .ok (.getfield 28, 3) := by decide +kernel
theorem d_GR_text_23 : decode q_GR_text.2.1 23 = .ok (.getfield 133, 3) := by decide +kernel
theorem fl_GR_133 : rx_F "GlassRoom" 133 4 2 := ⟨(RX4, TX4, 4), rfl, by decide, (rx_s1 141 rfl rfl), rx_T4⟩
theorem d_GR_text_26 : decode q_GR_text.2.1 26 = .ok (.invokevirtual 136, 3) := by decide +kernel
theorem ml_GR_136 : rx_CV "GlassRoom" 136 q_Ha_become 1 := ⟨⟨(rx_s3 115 rfl rfl), (rx_s3 116 rfl rfl), (rx_s3 117 rfl rfl)⟩, ⟨(rx_s1 3 rfl rfl), q_Ha_become_k, ⟨by decide, by decide, by decide +kernel⟩, by decide⟩⟩
theorem d_GR_text_29 : decode q_GR_text.2.1 29 = .ok (.aload_n 0, 1) := by decide +kernel
theorem d_GR_text_30 : decode q_GR_text.2.1 30 = .ok (.getfield 56, 3) := by decide +kernel
theorem d_GR_text_33 : decode q_GR_text.2.1 33 = .ok (.iconst 0, 1) := by decide +kernel
theorem d_GR_text_34 : decode q_GR_text.2.1 34 = .ok (.putfield 139, 3) := by decide +kernel
theorem d_GR_text_37 : decode q_GR_text.2.1 37 = .ok (.aload_n 0, 1) := by decide +kernel
theorem d_GR_text_38 : decode q_GR_text.2.1 38 = .ok (.getfield 96, 3) := by decide +kernel
theorem d_GR_text_41 : decode q_GR_text.2.1 41 = .ok (.iconst 0, 1) := by decide +kernel
theorem d_GR_text_42 : decode q_GR_text.2.1 42 = .ok (.putfield 140, 3) := by decide +kernel
theorem fp_GR_140 : rx_FP "GlassRoom" 140 8 3 (.int) := ⟨(RX8, TX8, 4), tyX8, rfl, by decide, (rx_s2 89 rfl rfl), rx_T8, tyX8_ok, nmX8, rfl, rfl⟩
theorem d_GR_text_45 : decode q_GR_text.2.1 45 = .ok (.aload_n 0, 1) := by decide +kernel
theorem d_GR_text_46 : decode q_GR_text.2.1 46 = .ok (.iconst 0, 1) := by decide +kernel
theorem d_GR_text_47 : decode q_GR_text.2.1 47 = .ok (.putfield 107, 3) := by decide +kernel
theorem d_GR_text_50 : decode q_GR_text.2.1 50 = .ok (.aload_n 0, 1) := by decide +kernel
theorem d_GR_text_51 : decode q_GR_text.2.1 51 = .ok (.getfield 12, 3) := by decide +kernel
theorem d_GR_text_54 : decode q_GR_text.2.1 54 = .ok (.iconst 0, 1) := by decide +kernel
theorem d_GR_text_55 : decode q_GR_text.2.1 55 = .ok (.putfield 115, 3) := by decide +kernel
theorem d_GR_text_58 : decode q_GR_text.2.1 58 = .ok (.aload_n 0, 1) := by decide +kernel
theorem d_GR_text_59 : decode q_GR_text.2.1 59 = .ok (.getfield 19, 3) := by decide +kernel
theorem d_GR_text_62 : decode q_GR_text.2.1 62 = .ok (.getfield 141, 3) := by decide +kernel
theorem d_GR_text_65 : decode q_GR_text.2.1 65 = .ok (.ireturn, 1) := by decide +kernel
theorem d_GR_text_66 : decode q_GR_text.2.1 66 = .ok (.iload_n 1, 1) := by decide +kernel
theorem d_GR_text_67 : decode q_GR_text.2.1 67 = .ok (.iconst 1, 1) := by decide +kernel
theorem d_GR_text_68 : decode q_GR_text.2.1 68 = .ok (.if_icmp .ne 51, 3) := by decide +kernel
theorem d_GR_text_71 : decode q_GR_text.2.1 71 = .ok (.aload_n 0, 1) := by decide +kernel
theorem d_GR_text_72 : decode q_GR_text.2.1 72 = .ok (.getfield 100, 3) := by decide +kernel
theorem d_GR_text_75 : decode q_GR_text.2.1 75 = .ok (.iconst 4, 1) := by decide +kernel
theorem d_GR_text_76 : decode q_GR_text.2.1 76 = .ok (.if_icmp .ge 43, 3) := by decide +kernel
theorem d_GR_text_119 : decode q_GR_text.2.1 119 = .ok (.iconst (-1), 1) := by decide +kernel
theorem d_GR_text_120 : decode q_GR_text.2.1 120 = .ok (.ireturn, 1) := by decide +kernel
theorem d_GR_text_79 : decode q_GR_text.2.1 79 = .ok (.aload_n 0, 1) := by decide +kernel
theorem d_GR_text_80 : decode q_GR_text.2.1 80 = .ok (.getfield 35, 3) := by decide +kernel
theorem d_GR_text_83 : decode q_GR_text.2.1 83 = .ok (.aload_n 0, 1) := by decide +kernel
theorem d_GR_text_84 : decode q_GR_text.2.1 84 = .ok (.invokevirtual 126, 3) := by decide +kernel
theorem d_GR_text_87 : decode q_GR_text.2.1 87 = .ok (.invokevirtual 130, 3) := by decide +kernel
theorem d_GR_text_90 : decode q_GR_text.2.1 90 = .ok (.iconst (-1), 1) := by decide +kernel
theorem d_GR_text_91 : decode q_GR_text.2.1 91 = .ok (.if_icmp .ne 28, 3) := by decide +kernel
theorem d_GR_text_94 : decode q_GR_text.2.1 94 = .ok (.aload_n 0, 1) := by decide +kernel
theorem d_GR_text_95 : decode q_GR_text.2.1 95 = .ok (.dup, 1) := by decide +kernel
theorem d_GR_text_96 : decode q_GR_text.2.1 96 = .ok (.getfield 100, 3) := by decide +kernel
theorem d_GR_text_99 : decode q_GR_text.2.1 99 = .ok (.iconst 1, 1) := by decide +kernel
theorem d_GR_text_100 : decode q_GR_text.2.1 100 = .ok (.iadd, 1) := by decide +kernel
theorem d_GR_text_101 : decode q_GR_text.2.1 101 = .ok (.putfield 100, 3) := by decide +kernel
theorem fp_GR_100 : rx_FP "GlassRoom" 100 11 14 (.int) := ⟨(RX11, TX11, 17), tyX11, rfl, by decide, (rx_s2 113 rfl rfl), rx_T11, tyX11_ok, nmX11, rfl, rfl⟩
theorem d_GR_text_104 : decode q_GR_text.2.1 104 = .ok (.aload_n 0, 1) := by decide +kernel
theorem d_GR_text_105 : decode q_GR_text.2.1 105 = .ok (.getfield 12, 3) := by decide +kernel
theorem d_GR_text_108 : decode q_GR_text.2.1 108 = .ok (.iconst 0, 1) := by decide +kernel
theorem d_GR_text_109 : decode q_GR_text.2.1 109 = .ok (.putfield 115, 3) := by decide +kernel
theorem d_GR_text_112 : decode q_GR_text.2.1 112 = .ok (.aload_n 0, 1) := by decide +kernel
theorem d_GR_text_113 : decode q_GR_text.2.1 113 = .ok (.getfield 100, 3) := by decide +kernel
theorem d_GR_text_116 : decode q_GR_text.2.1 116 = .ok (.iconst 1, 1) := by decide +kernel
theorem d_GR_text_117 : decode q_GR_text.2.1 117 = .ok (.isub, 1) := by decide +kernel
theorem d_GR_text_118 : decode q_GR_text.2.1 118 = .ok (.ireturn, 1) := by decide +kernel
theorem d_M_fault_0 : decode q_M_fault.2.1 0 = .ok (.iload_n 1, 1) := by decide +kernel
theorem d_M_fault_1 : decode q_M_fault.2.1 1 = .ok (.ifCond .ne 10, 3) := by decide +kernel
theorem d_M_fault_4 : decode q_M_fault.2.1 4 = .ok (.aload_n 0, 1) := by decide +kernel
theorem d_M_fault_5 : decode q_M_fault.2.1 5 = .ok (.invokevirtual 230, 3) := by decide +kernel
theorem ml_M_230 : rx_CV "GlassRoomModel" 230 q_M_readHall 0 := ⟨⟨(rx_s6 14 rfl rfl), (rx_s6 16 rfl rfl), (rx_s0 23 rfl rfl)⟩, ⟨(rx_s1 13 rfl rfl), q_M_readHall_k, ⟨by decide, by decide, by decide +kernel⟩, by decide⟩⟩
theorem d_M_fault_8 : decode q_M_fault.2.1 8 = .ok (.goto 18, 3) := by decide +kernel
theorem d_M_fault_26 : decode q_M_fault.2.1 26 = .ok (.ireturn, 1) := by decide +kernel
theorem d_M_fault_11 : decode q_M_fault.2.1 11 = .ok (.iload_n 1, 1) := by decide +kernel
theorem d_M_fault_12 : decode q_M_fault.2.1 12 = .ok (.iconst 1, 1) := by decide +kernel
theorem d_M_fault_13 : decode q_M_fault.2.1 13 = .ok (.if_icmp .ne 11, 3) := by decide +kernel
theorem d_M_fault_16 : decode q_M_fault.2.1 16 = .ok (.aload_n 0, 1) := by decide +kernel
theorem d_M_fault_17 : decode q_M_fault.2.1 17 = .ok (.iconst 4, 1) := by decide +kernel
theorem d_M_fault_18 : decode q_M_fault.2.1 18 = .ok (.invokevirtual 233, 3) := by decide +kernel
theorem ml_M_233 : rx_CV "GlassRoomModel" 233 q_M_readLaw 1 := ⟨⟨(rx_s6 60 rfl rfl), (rx_s6 62 rfl rfl), (rx_s0 30 rfl rfl)⟩, ⟨(rx_s1 13 rfl rfl), q_M_readLaw_k, ⟨by decide, by decide, by decide +kernel⟩, by decide⟩⟩
theorem d_M_fault_21 : decode q_M_fault.2.1 21 = .ok (.goto 5, 3) := by decide +kernel
theorem d_M_fault_24 : decode q_M_fault.2.1 24 = .ok (.bipush (-2), 2) := by decide +kernel
theorem d_M_text_0 : decode q_M_text.2.1 0 = .ok (.iload_n 1, 1) := by decide +kernel
theorem d_M_text_1 : decode q_M_text.2.1 1 = .ok (.ifCond .ne 21, 3) := by decide +kernel
theorem d_M_text_4 : decode q_M_text.2.1 4 = .ok (.aload_n 0, 1) := by decide +kernel
theorem d_M_text_5 : decode q_M_text.2.1 5 = .ok (.invokevirtual 230, 3) := by decide +kernel
theorem d_M_text_8 : decode q_M_text.2.1 8 = .ok (.iconst (-1), 1) := by decide +kernel
theorem d_M_text_9 : decode q_M_text.2.1 9 = .ok (.if_icmp .ne 13, 3) := by decide +kernel
theorem d_M_text_12 : decode q_M_text.2.1 12 = .ok (.aload_n 0, 1) := by decide +kernel
theorem d_M_text_13 : decode q_M_text.2.1 13 = .ok (.iconst 0, 1) := by decide +kernel
theorem d_M_text_14 : decode q_M_text.2.1 14 = .ok (.putfield 90, 3) := by decide +kernel
theorem d_M_text_17 : decode q_M_text.2.1 17 = .ok (.aload_n 0, 1) := by decide +kernel
theorem d_M_text_18 : decode q_M_text.2.1 18 = .ok (.invokevirtual 261, 3) := by decide +kernel
theorem ml_M_261 : rx_CV "GlassRoomModel" 261 q_M_takeHall 0 := ⟨⟨(rx_s6 134 rfl rfl), (rx_s6 136 rfl rfl), (rx_s0 46 rfl rfl)⟩, ⟨(rx_s1 13 rfl rfl), q_M_takeHall_k, ⟨by decide, by decide, by decide +kernel⟩, by decide⟩⟩
theorem d_M_text_21 : decode q_M_text.2.1 21 = .ok (.ireturn, 1) := by decide +kernel
theorem d_M_text_22 : decode q_M_text.2.1 22 = .ok (.iload_n 1, 1) := by decide +kernel
theorem d_M_text_23 : decode q_M_text.2.1 23 = .ok (.iconst 1, 1) := by decide +kernel
theorem d_M_text_24 : decode q_M_text.2.1 24 = .ok (.if_icmp .ne 45, 3) := by decide +kernel
theorem d_M_text_27 : decode q_M_text.2.1 27 = .ok (.aload_n 0, 1) := by decide +kernel
theorem d_M_text_28 : decode q_M_text.2.1 28 = .ok (.getfield 264, 3) := by decide +kernel
theorem d_M_text_31 : decode q_M_text.2.1 31 = .ok (.iconst 4, 1) := by decide +kernel
theorem d_M_text_32 : decode q_M_text.2.1 32 = .ok (.if_icmp .ge 37, 3) := by decide +kernel
theorem d_M_text_69 : decode q_M_text.2.1 69 = .ok (.iconst (-1), 1) := by decide +kernel
theorem d_M_text_70 : decode q_M_text.2.1 70 = .ok (.ireturn, 1) := by decide +kernel
theorem d_M_text_35 : decode q_M_text.2.1 35 = .ok (.aload_n 0, 1) := by decide +kernel
theorem d_M_text_36 : decode q_M_text.2.1 36 = .ok (.aload_n 0, 1) := by decide +kernel
theorem d_M_text_37 : decode q_M_text.2.1 37 = .ok (.getfield 264, 3) := by decide +kernel
theorem d_M_text_40 : decode q_M_text.2.1 40 = .ok (.invokevirtual 233, 3) := by decide +kernel
theorem d_M_text_43 : decode q_M_text.2.1 43 = .ok (.iconst (-1), 1) := by decide +kernel
theorem d_M_text_44 : decode q_M_text.2.1 44 = .ok (.if_icmp .ne 25, 3) := by decide +kernel
theorem d_M_text_47 : decode q_M_text.2.1 47 = .ok (.aload_n 0, 1) := by decide +kernel
theorem d_M_text_48 : decode q_M_text.2.1 48 = .ok (.iconst 0, 1) := by decide +kernel
theorem d_M_text_49 : decode q_M_text.2.1 49 = .ok (.putfield 90, 3) := by decide +kernel
theorem d_M_text_52 : decode q_M_text.2.1 52 = .ok (.aload_n 0, 1) := by decide +kernel
theorem d_M_text_53 : decode q_M_text.2.1 53 = .ok (.dup, 1) := by decide +kernel
theorem d_M_text_54 : decode q_M_text.2.1 54 = .ok (.getfield 264, 3) := by decide +kernel
theorem d_M_text_57 : decode q_M_text.2.1 57 = .ok (.iconst 1, 1) := by decide +kernel
theorem d_M_text_58 : decode q_M_text.2.1 58 = .ok (.iadd, 1) := by decide +kernel
theorem d_M_text_59 : decode q_M_text.2.1 59 = .ok (.putfield 264, 3) := by decide +kernel
theorem fp_M_264 : rx_FP "GlassRoomModel" 264 12 13 (.int) := ⟨(RX12, TX12, 45), tyX12, rfl, by decide, (rx_s5 112 rfl rfl), rx_T12, tyX12_ok, nmX12, rfl, rfl⟩
theorem d_M_text_62 : decode q_M_text.2.1 62 = .ok (.aload_n 0, 1) := by decide +kernel
theorem d_M_text_63 : decode q_M_text.2.1 63 = .ok (.getfield 264, 3) := by decide +kernel
theorem d_M_text_66 : decode q_M_text.2.1 66 = .ok (.iconst 1, 1) := by decide +kernel
theorem d_M_text_67 : decode q_M_text.2.1 67 = .ok (.isub, 1) := by decide +kernel
theorem d_M_text_68 : decode q_M_text.2.1 68 = .ok (.ireturn, 1) := by decide +kernel
set_option maxHeartbeats 4000000 in
set_option maxRecDepth 20000 in
theorem w_GR_freeLight {G : rx_Gh} {hp : rx_Hp} {F : Nat → rx_Hp → Prop}  (H : ((hp.1 0 14) < 0 → False) ∧ (¬ (hp.1 0 14) < 0 → (5 ≤ (hp.1 0 14) → False) ∧ (¬ 5 ≤ (hp.1 0 14) → ∃ r1, vp_in (hp.1 0 14) 5 ∧ wC_r19 hp.2.2 (hp.1 0 14).toNatClampNeg = some r1 ∧ isL r1 ∧ (F r1 hp)))) : Ev wC G 1 q_GR_freeLight [.ref 0] hp (rR F) := by
  refine ev_of rfl (Nat.le_of_ble_eq_true rfl) rfl ?_
  show Rn wC G 1 q_GR_freeLight 0 [some (.ref 0)] [] hp (rR F)
  refine r_aload_n (i := 0) d_GR_freeLight_0 rfl rfl ?_
  refine r_getI (b := 0) (v := hp.1 0 14) d_GR_freeLight_1 fl_GR_100 (by decide) rfl rfl rfl ?_
  refine r_if_lt (tgt := 31) d_GR_freeLight_4 (by decide) (fun hc_4 => ?_) (fun hc_4 => ?_)
  · replace H := H.1 hc_4
    refine r_null d_GR_freeLight_31 ?_
    exact H.elim
  · replace H := H.2 hc_4
    refine r_aload_n (i := 0) d_GR_freeLight_7 rfl rfl ?_
    refine r_getI (b := 0) (v := hp.1 0 14) d_GR_freeLight_8 fl_GR_100 (by decide) rfl rfl rfl ?_
    refine r_aload_n (i := 0) d_GR_freeLight_11 rfl rfl ?_
    refine r_getR (b := 0) (r := 19) d_GR_freeLight_12 fl_GR_41 (by decide) rfl rfl rfl ?_
    refine r_alen (b := 19) (n := 5) (v := 5) d_GR_freeLight_15 (by decide) rfl al_5 ?_
    refine r_icmp_ge (tgt := 31) d_GR_freeLight_16 (by decide) (fun hc_16 => ?_) (fun hc_16 => ?_)
    · replace H := H.1 hc_16
      refine r_null d_GR_freeLight_31 ?_
      exact H.elim
    · replace H := H.2 hc_16
      refine r_aload_n (i := 0) d_GR_freeLight_19 rfl rfl ?_
      refine r_getR (b := 0) (r := 19) d_GR_freeLight_20 fl_GR_41 (by decide) rfl rfl rfl ?_
      refine r_aload_n (i := 0) d_GR_freeLight_23 rfl rfl ?_
      refine r_getI (b := 0) (v := hp.1 0 14) d_GR_freeLight_24 fl_GR_100 (by decide) rfl rfl rfl ?_
      obtain ⟨r1, hi_27, hr_27, hl_27, H⟩ := H
      refine r_aald (b := 19) (n := 5) (t := 0) (r := r1) d_GR_freeLight_27 (by decide) rfl hi_27 hr_27 ?_
      refine r_goto (tgt := 32) d_GR_freeLight_28 (by decide) ?_
      exact rR_ret d_GR_freeLight_32 rfl H
set_option maxHeartbeats 4000000 in
set_option maxRecDepth 20000 in
theorem w_GR_fault {G : rx_Gh} {hp : rx_Hp} {F : Int32 → rx_Hp → Prop} (a1 : Int32) (H : (a1 = 0 → Ev wC G 11 q_HR_read [.ref 8] hp (rI fun r2 h1 => F r2 h1)) ∧ (¬ a1 = 0 → (a1 = 1 → Ev wC G 1 q_GR_freeLight [.ref 0] hp (rR fun r4 h3 => Ev wC G 51 q_LR_read [.ref 15, .ref r4] h3 (rI fun r6 h5 => F r6 h5))) ∧ (¬ a1 = 1 → F (-2) hp))) : Ev wC G 52 q_GR_fault [.ref 0, .int a1] hp (rI F) := by
  refine ev_of rfl (Nat.le_of_ble_eq_true rfl) rfl ?_
  show Rn wC G 52 q_GR_fault 0 [some (.ref 0), some (.int a1)] [] hp (rI F)
  refine r_iload_n (i := 1) d_GR_fault_0 rfl rfl ?_
  refine r_if_ne (tgt := 12) d_GR_fault_1 (by decide) (fun hc_1 => ?_) (fun hc_1 => ?_)
  · replace H := H.2 hc_1
    refine r_iload_n (i := 1) d_GR_fault_12 rfl rfl ?_
    refine r_iconst d_GR_fault_13 ic_1 ?_
    refine r_icmp_ne (tgt := 29) d_GR_fault_14 (by decide) (fun hc_14 => ?_) (fun hc_14 => ?_)
    · replace H := H.2 hc_14
      refine r_bipush d_GR_fault_29 bp_m2 ?_
      exact rI_ret d_GR_fault_31 rfl H
    · replace H := H.1 hc_14
      refine r_aload_n (i := 0) d_GR_fault_17 rfl rfl ?_
      refine r_getR (b := 0) (r := 15) d_GR_fault_18 fl_GR_35 (by decide) rfl rfl rfl ?_
      refine r_aload_n (i := 0) d_GR_fault_21 rfl rfl ?_
      refine rc_VR (b := 0) (d' := 1) [] [.ref 15] d_GR_fault_22 ml_GR_126 rfl rfl (by decide) (by decide) rfl rfl (Nat.le_of_ble_eq_true rfl) H ?_
      intro r4 h3 H
      refine rc_VI (b := 15) (d' := 51) [.ref r4] [] d_GR_fault_25 ml_GR_130 rfl rfl (by decide) (by decide) rfl rfl (Nat.le_of_ble_eq_true rfl) H ?_
      intro r6 h5 H
      exact rI_ret d_GR_fault_28 rfl H
  · replace H := H.1 hc_1
    refine r_aload_n (i := 0) d_GR_fault_4 rfl rfl ?_
    refine r_getR (b := 0) (r := 8) d_GR_fault_5 fl_GR_28 (by decide) rfl rfl rfl ?_
    refine rc_VI (b := 8) (d' := 11) [] [] d_GR_fault_8 ml_GR_122 rfl rfl (by decide) (by decide) rfl rfl (Nat.le_of_ble_eq_true rfl) H ?_
    intro r2 h1 H
    exact rI_ret d_GR_fault_11 rfl H
set_option maxHeartbeats 4000000 in
set_option maxRecDepth 20000 in
theorem w_GR_text {G : rx_Gh} {hp : rx_Hp} {F : Int32 → rx_Hp → Prop} (a1 : Int32) (H : (a1 = 0 → Ev wC G 11 q_HR_read [.ref 8] hp (rI fun r2 h1 => (r2 = (-1) → Ev wC G 1 q_Ha_become [.ref 3, .ref 10] h1 (rV fun h3 => F (h3.1 3 4) (rx_pf (rx_pf (rx_pf (rx_pf h3 37 2 0) 47 3 0) 0 16 0) 1 1 0))) ∧ (¬ r2 = (-1) → (a1 = 1 → (4 ≤ (h1.1 0 14) → F (-1) h1) ∧ (¬ 4 ≤ (h1.1 0 14) → Ev wC G 1 q_GR_freeLight [.ref 0] h1 (rR fun r5 h4 => Ev wC G 51 q_LR_read [.ref 15, .ref r5] h4 (rI fun r7 h6 => (r7 = (-1) → F (((h6.1 0 14) + 1) - 1) (rx_pf (rx_pf h6 0 14 ((h6.1 0 14) + 1)) 1 1 0)) ∧ (¬ r7 = (-1) → F (-1) h6))))) ∧ (¬ a1 = 1 → F (-1) h1)))) ∧ (¬ a1 = 0 → (a1 = 1 → (4 ≤ (hp.1 0 14) → F (-1) hp) ∧ (¬ 4 ≤ (hp.1 0 14) → Ev wC G 1 q_GR_freeLight [.ref 0] hp (rR fun r9 h8 => Ev wC G 51 q_LR_read [.ref 15, .ref r9] h8 (rI fun r11 h10 => (r11 = (-1) → F (((h10.1 0 14) + 1) - 1) (rx_pf (rx_pf h10 0 14 ((h10.1 0 14) + 1)) 1 1 0)) ∧ (¬ r11 = (-1) → F (-1) h10))))) ∧ (¬ a1 = 1 → F (-1) hp))) : Ev wC G 52 q_GR_text [.ref 0, .int a1] hp (rI F) := by
  refine ev_of rfl (Nat.le_of_ble_eq_true rfl) rfl ?_
  show Rn wC G 52 q_GR_text 0 [some (.ref 0), some (.int a1)] [] hp (rI F)
  refine r_iload_n (i := 1) d_GR_text_0 rfl rfl ?_
  refine r_if_ne (tgt := 66) d_GR_text_1 (by decide) (fun hc_1 => ?_) (fun hc_1 => ?_)
  · replace H := H.2 hc_1
    refine r_iload_n (i := 1) d_GR_text_66 rfl rfl ?_
    refine r_iconst d_GR_text_67 ic_1 ?_
    refine r_icmp_ne (tgt := 119) d_GR_text_68 (by decide) (fun hc_68 => ?_) (fun hc_68 => ?_)
    · replace H := H.2 hc_68
      refine r_iconst d_GR_text_119 ic_m1 ?_
      exact rI_ret d_GR_text_120 rfl H
    · replace H := H.1 hc_68
      refine r_aload_n (i := 0) d_GR_text_71 rfl rfl ?_
      refine r_getI (b := 0) (v := hp.1 0 14) d_GR_text_72 fl_GR_100 (by decide) rfl rfl rfl ?_
      refine r_iconst d_GR_text_75 ic_4 ?_
      refine r_icmp_ge (tgt := 119) d_GR_text_76 (by decide) (fun hc_76 => ?_) (fun hc_76 => ?_)
      · replace H := H.1 hc_76
        refine r_iconst d_GR_text_119 ic_m1 ?_
        exact rI_ret d_GR_text_120 rfl H
      · replace H := H.2 hc_76
        refine r_aload_n (i := 0) d_GR_text_79 rfl rfl ?_
        refine r_getR (b := 0) (r := 15) d_GR_text_80 fl_GR_35 (by decide) rfl rfl rfl ?_
        refine r_aload_n (i := 0) d_GR_text_83 rfl rfl ?_
        refine rc_VR (b := 0) (d' := 1) [] [.ref 15] d_GR_text_84 ml_GR_126 rfl rfl (by decide) (by decide) rfl rfl (Nat.le_of_ble_eq_true rfl) H ?_
        intro r9 h8 H
        refine rc_VI (b := 15) (d' := 51) [.ref r9] [] d_GR_text_87 ml_GR_130 rfl rfl (by decide) (by decide) rfl rfl (Nat.le_of_ble_eq_true rfl) H ?_
        intro r11 h10 H
        refine r_iconst d_GR_text_90 ic_m1 ?_
        refine r_icmp_ne (tgt := 119) d_GR_text_91 (by decide) (fun hc_91 => ?_) (fun hc_91 => ?_)
        · replace H := H.2 hc_91
          refine r_iconst d_GR_text_119 ic_m1 ?_
          exact rI_ret d_GR_text_120 rfl H
        · replace H := H.1 hc_91
          refine r_aload_n (i := 0) d_GR_text_94 rfl rfl ?_
          refine r_dupr d_GR_text_95 ?_
          refine r_getI (b := 0) (v := h10.1 0 14) d_GR_text_96 fl_GR_100 (by decide) rfl rfl rfl ?_
          refine r_iconst d_GR_text_99 ic_1 ?_
          refine r_iadd d_GR_text_100 ?_
          refine r_putI (b := 0) d_GR_text_101 fp_GR_100 ⟨rfl, rfl⟩ (by decide) rfl rfl ?_
          refine r_aload_n (i := 0) d_GR_text_104 rfl rfl ?_
          refine r_getR (b := 0) (r := 1) d_GR_text_105 fl_GR_12 (by decide) rfl rfl rfl ?_
          refine r_iconst d_GR_text_108 ic_0 ?_
          refine r_putI (b := 1) d_GR_text_109 fp_GR_115 ⟨rfl, rfl⟩ (by decide) rfl rfl ?_
          refine r_aload_n (i := 0) d_GR_text_112 rfl rfl ?_
          refine r_getI (b := 0) (v := ((h10.1 0 14) + 1)) d_GR_text_113 fl_GR_100 (by decide) rfl rfl rfl ?_
          refine r_iconst d_GR_text_116 ic_1 ?_
          refine r_isub d_GR_text_117 ?_
          exact rI_ret d_GR_text_118 rfl H
  · replace H := H.1 hc_1
    refine r_aload_n (i := 0) d_GR_text_4 rfl rfl ?_
    refine r_getR (b := 0) (r := 8) d_GR_text_5 fl_GR_28 (by decide) rfl rfl rfl ?_
    refine rc_VI (b := 8) (d' := 11) [] [] d_GR_text_8 ml_GR_122 rfl rfl (by decide) (by decide) rfl rfl (Nat.le_of_ble_eq_true rfl) H ?_
    intro r2 h1 H
    refine r_iconst d_GR_text_11 ic_m1 ?_
    refine r_icmp_ne (tgt := 66) d_GR_text_12 (by decide) (fun hc_12 => ?_) (fun hc_12 => ?_)
    · replace H := H.2 hc_12
      refine r_iload_n (i := 1) d_GR_text_66 rfl rfl ?_
      refine r_iconst d_GR_text_67 ic_1 ?_
      refine r_icmp_ne (tgt := 119) d_GR_text_68 (by decide) (fun hc_68 => ?_) (fun hc_68 => ?_)
      · replace H := H.2 hc_68
        refine r_iconst d_GR_text_119 ic_m1 ?_
        exact rI_ret d_GR_text_120 rfl H
      · replace H := H.1 hc_68
        refine r_aload_n (i := 0) d_GR_text_71 rfl rfl ?_
        refine r_getI (b := 0) (v := h1.1 0 14) d_GR_text_72 fl_GR_100 (by decide) rfl rfl rfl ?_
        refine r_iconst d_GR_text_75 ic_4 ?_
        refine r_icmp_ge (tgt := 119) d_GR_text_76 (by decide) (fun hc_76 => ?_) (fun hc_76 => ?_)
        · replace H := H.1 hc_76
          refine r_iconst d_GR_text_119 ic_m1 ?_
          exact rI_ret d_GR_text_120 rfl H
        · replace H := H.2 hc_76
          refine r_aload_n (i := 0) d_GR_text_79 rfl rfl ?_
          refine r_getR (b := 0) (r := 15) d_GR_text_80 fl_GR_35 (by decide) rfl rfl rfl ?_
          refine r_aload_n (i := 0) d_GR_text_83 rfl rfl ?_
          refine rc_VR (b := 0) (d' := 1) [] [.ref 15] d_GR_text_84 ml_GR_126 rfl rfl (by decide) (by decide) rfl rfl (Nat.le_of_ble_eq_true rfl) H ?_
          intro r5 h4 H
          refine rc_VI (b := 15) (d' := 51) [.ref r5] [] d_GR_text_87 ml_GR_130 rfl rfl (by decide) (by decide) rfl rfl (Nat.le_of_ble_eq_true rfl) H ?_
          intro r7 h6 H
          refine r_iconst d_GR_text_90 ic_m1 ?_
          refine r_icmp_ne (tgt := 119) d_GR_text_91 (by decide) (fun hc_91 => ?_) (fun hc_91 => ?_)
          · replace H := H.2 hc_91
            refine r_iconst d_GR_text_119 ic_m1 ?_
            exact rI_ret d_GR_text_120 rfl H
          · replace H := H.1 hc_91
            refine r_aload_n (i := 0) d_GR_text_94 rfl rfl ?_
            refine r_dupr d_GR_text_95 ?_
            refine r_getI (b := 0) (v := h6.1 0 14) d_GR_text_96 fl_GR_100 (by decide) rfl rfl rfl ?_
            refine r_iconst d_GR_text_99 ic_1 ?_
            refine r_iadd d_GR_text_100 ?_
            refine r_putI (b := 0) d_GR_text_101 fp_GR_100 ⟨rfl, rfl⟩ (by decide) rfl rfl ?_
            refine r_aload_n (i := 0) d_GR_text_104 rfl rfl ?_
            refine r_getR (b := 0) (r := 1) d_GR_text_105 fl_GR_12 (by decide) rfl rfl rfl ?_
            refine r_iconst d_GR_text_108 ic_0 ?_
            refine r_putI (b := 1) d_GR_text_109 fp_GR_115 ⟨rfl, rfl⟩ (by decide) rfl rfl ?_
            refine r_aload_n (i := 0) d_GR_text_112 rfl rfl ?_
            refine r_getI (b := 0) (v := ((h6.1 0 14) + 1)) d_GR_text_113 fl_GR_100 (by decide) rfl rfl rfl ?_
            refine r_iconst d_GR_text_116 ic_1 ?_
            refine r_isub d_GR_text_117 ?_
            exact rI_ret d_GR_text_118 rfl H
    · replace H := H.1 hc_12
      refine r_aload_n (i := 0) d_GR_text_15 rfl rfl ?_
      refine r_getR (b := 0) (r := 3) d_GR_text_16 fl_GR_19 (by decide) rfl rfl rfl ?_
      refine r_aload_n (i := 0) d_GR_text_19 rfl rfl ?_
      refine r_getR (b := 0) (r := 8) d_GR_text_20 fl_GR_28 (by decide) rfl rfl rfl ?_
      refine r_getR (b := 8) (r := 10) d_GR_text_23 fl_GR_133 (by decide) rfl rfl rfl ?_
      refine rc_VV (b := 3) (d' := 1) [.ref 10] [] d_GR_text_26 ml_GR_136 rfl rfl (by decide) (by decide) rfl rfl (Nat.le_of_ble_eq_true rfl) H ?_
      intro h3 H
      refine r_aload_n (i := 0) d_GR_text_29 rfl rfl ?_
      refine r_getR (b := 0) (r := 37) d_GR_text_30 fl_GR_56 (by decide) rfl rfl rfl ?_
      refine r_iconst d_GR_text_33 ic_0 ?_
      refine r_putI (b := 37) d_GR_text_34 fp_GR_139 ⟨rfl, rfl⟩ (by decide) rfl rfl ?_
      refine r_aload_n (i := 0) d_GR_text_37 rfl rfl ?_
      refine r_getR (b := 0) (r := 47) d_GR_text_38 fl_GR_96 (by decide) rfl rfl rfl ?_
      refine r_iconst d_GR_text_41 ic_0 ?_
      refine r_putI (b := 47) d_GR_text_42 fp_GR_140 ⟨rfl, rfl⟩ (by decide) rfl rfl ?_
      refine r_aload_n (i := 0) d_GR_text_45 rfl rfl ?_
      refine r_iconst d_GR_text_46 ic_0 ?_
      refine r_putI (b := 0) d_GR_text_47 fp_GR_107 ⟨rfl, rfl⟩ (by decide) rfl rfl ?_
      refine r_aload_n (i := 0) d_GR_text_50 rfl rfl ?_
      refine r_getR (b := 0) (r := 1) d_GR_text_51 fl_GR_12 (by decide) rfl rfl rfl ?_
      refine r_iconst d_GR_text_54 ic_0 ?_
      refine r_putI (b := 1) d_GR_text_55 fp_GR_115 ⟨rfl, rfl⟩ (by decide) rfl rfl ?_
      refine r_aload_n (i := 0) d_GR_text_58 rfl rfl ?_
      refine r_getR (b := 0) (r := 3) d_GR_text_59 fl_GR_19 (by decide) rfl rfl rfl ?_
      refine r_getI (b := 3) (v := h3.1 3 4) d_GR_text_62 fl_GR_141 (by decide) rfl rfl rfl ?_
      exact rI_ret d_GR_text_65 rfl H
set_option maxHeartbeats 4000000 in
set_option maxRecDepth 20000 in
theorem w_M_fault {G : rx_Gh} {hp : rx_Hp} {F : Int32 → rx_Hp → Prop} (a1 : Int32) (H : (a1 = 0 → Ev wM G 5 q_M_readHall [.ref 0] hp (rI fun r2 h1 => F r2 h1)) ∧ (¬ a1 = 0 → (a1 = 1 → Ev wM G 76 q_M_readLaw [.ref 0, .int 4] hp (rI fun r4 h3 => F r4 h3)) ∧ (¬ a1 = 1 → F (-2) hp))) : Ev wM G 77 q_M_fault [.ref 0, .int a1] hp (rI F) := by
  refine ev_of rfl (Nat.le_of_ble_eq_true rfl) rfl ?_
  show Rn wM G 77 q_M_fault 0 [some (.ref 0), some (.int a1)] [] hp (rI F)
  refine r_iload_n (i := 1) d_M_fault_0 rfl rfl ?_
  refine r_if_ne (tgt := 11) d_M_fault_1 (by decide) (fun hc_1 => ?_) (fun hc_1 => ?_)
  · replace H := H.2 hc_1
    refine r_iload_n (i := 1) d_M_fault_11 rfl rfl ?_
    refine r_iconst d_M_fault_12 ic_1 ?_
    refine r_icmp_ne (tgt := 24) d_M_fault_13 (by decide) (fun hc_13 => ?_) (fun hc_13 => ?_)
    · replace H := H.2 hc_13
      refine r_bipush d_M_fault_24 bp_m2 ?_
      exact rI_ret d_M_fault_26 rfl H
    · replace H := H.1 hc_13
      refine r_aload_n (i := 0) d_M_fault_16 rfl rfl ?_
      refine r_iconst d_M_fault_17 ic_4 ?_
      refine rc_VI (b := 0) (d' := 76) [.int 4] [] d_M_fault_18 ml_M_233 rfl rfl (by decide) (by decide) rfl rfl (Nat.le_of_ble_eq_true rfl) H ?_
      intro r4 h3 H
      refine r_goto (tgt := 26) d_M_fault_21 (by decide) ?_
      exact rI_ret d_M_fault_26 rfl H
  · replace H := H.1 hc_1
    refine r_aload_n (i := 0) d_M_fault_4 rfl rfl ?_
    refine rc_VI (b := 0) (d' := 5) [] [] d_M_fault_5 ml_M_230 rfl rfl (by decide) (by decide) rfl rfl (Nat.le_of_ble_eq_true rfl) H ?_
    intro r2 h1 H
    refine r_goto (tgt := 26) d_M_fault_8 (by decide) ?_
    exact rI_ret d_M_fault_26 rfl H
set_option maxHeartbeats 4000000 in
set_option maxRecDepth 20000 in
theorem w_M_text {G : rx_Gh} {hp : rx_Hp} {F : Int32 → rx_Hp → Prop} (a1 : Int32) (H : (a1 = 0 → Ev wM G 5 q_M_readHall [.ref 0] hp (rI fun r2 h1 => (r2 = (-1) → Ev wM G 1 q_M_takeHall [.ref 0] (rx_pf h1 0 2 0) (rI fun r4 h3 => F r4 h3)) ∧ (¬ r2 = (-1) → (a1 = 1 → (4 ≤ (h1.1 0 13) → F (-1) h1) ∧ (¬ 4 ≤ (h1.1 0 13) → Ev wM G 76 q_M_readLaw [.ref 0, .int (h1.1 0 13)] h1 (rI fun r6 h5 => (r6 = (-1) → F (((h5.1 0 13) + 1) - 1) (rx_pf (rx_pf h5 0 2 0) 0 13 ((h5.1 0 13) + 1))) ∧ (¬ r6 = (-1) → F (-1) h5)))) ∧ (¬ a1 = 1 → F (-1) h1)))) ∧ (¬ a1 = 0 → (a1 = 1 → (4 ≤ (hp.1 0 13) → F (-1) hp) ∧ (¬ 4 ≤ (hp.1 0 13) → Ev wM G 76 q_M_readLaw [.ref 0, .int (hp.1 0 13)] hp (rI fun r8 h7 => (r8 = (-1) → F (((h7.1 0 13) + 1) - 1) (rx_pf (rx_pf h7 0 2 0) 0 13 ((h7.1 0 13) + 1))) ∧ (¬ r8 = (-1) → F (-1) h7)))) ∧ (¬ a1 = 1 → F (-1) hp))) : Ev wM G 77 q_M_text [.ref 0, .int a1] hp (rI F) := by
  refine ev_of rfl (Nat.le_of_ble_eq_true rfl) rfl ?_
  show Rn wM G 77 q_M_text 0 [some (.ref 0), some (.int a1)] [] hp (rI F)
  refine r_iload_n (i := 1) d_M_text_0 rfl rfl ?_
  refine r_if_ne (tgt := 22) d_M_text_1 (by decide) (fun hc_1 => ?_) (fun hc_1 => ?_)
  · replace H := H.2 hc_1
    refine r_iload_n (i := 1) d_M_text_22 rfl rfl ?_
    refine r_iconst d_M_text_23 ic_1 ?_
    refine r_icmp_ne (tgt := 69) d_M_text_24 (by decide) (fun hc_24 => ?_) (fun hc_24 => ?_)
    · replace H := H.2 hc_24
      refine r_iconst d_M_text_69 ic_m1 ?_
      exact rI_ret d_M_text_70 rfl H
    · replace H := H.1 hc_24
      refine r_aload_n (i := 0) d_M_text_27 rfl rfl ?_
      refine r_getI (b := 0) (v := hp.1 0 13) d_M_text_28 fl_M_264 (by decide) rfl rfl rfl ?_
      refine r_iconst d_M_text_31 ic_4 ?_
      refine r_icmp_ge (tgt := 69) d_M_text_32 (by decide) (fun hc_32 => ?_) (fun hc_32 => ?_)
      · replace H := H.1 hc_32
        refine r_iconst d_M_text_69 ic_m1 ?_
        exact rI_ret d_M_text_70 rfl H
      · replace H := H.2 hc_32
        refine r_aload_n (i := 0) d_M_text_35 rfl rfl ?_
        refine r_aload_n (i := 0) d_M_text_36 rfl rfl ?_
        refine r_getI (b := 0) (v := hp.1 0 13) d_M_text_37 fl_M_264 (by decide) rfl rfl rfl ?_
        refine rc_VI (b := 0) (d' := 76) [.int (hp.1 0 13)] [] d_M_text_40 ml_M_233 rfl rfl (by decide) (by decide) rfl rfl (Nat.le_of_ble_eq_true rfl) H ?_
        intro r8 h7 H
        refine r_iconst d_M_text_43 ic_m1 ?_
        refine r_icmp_ne (tgt := 69) d_M_text_44 (by decide) (fun hc_44 => ?_) (fun hc_44 => ?_)
        · replace H := H.2 hc_44
          refine r_iconst d_M_text_69 ic_m1 ?_
          exact rI_ret d_M_text_70 rfl H
        · replace H := H.1 hc_44
          refine r_aload_n (i := 0) d_M_text_47 rfl rfl ?_
          refine r_iconst d_M_text_48 ic_0 ?_
          refine r_putI (b := 0) d_M_text_49 fp_M_90 ⟨rfl, rfl⟩ (by decide) rfl rfl ?_
          refine r_aload_n (i := 0) d_M_text_52 rfl rfl ?_
          refine r_dupr d_M_text_53 ?_
          refine r_getI (b := 0) (v := h7.1 0 13) d_M_text_54 fl_M_264 (by decide) rfl rfl rfl ?_
          refine r_iconst d_M_text_57 ic_1 ?_
          refine r_iadd d_M_text_58 ?_
          refine r_putI (b := 0) d_M_text_59 fp_M_264 ⟨rfl, rfl⟩ (by decide) rfl rfl ?_
          refine r_aload_n (i := 0) d_M_text_62 rfl rfl ?_
          refine r_getI (b := 0) (v := ((h7.1 0 13) + 1)) d_M_text_63 fl_M_264 (by decide) rfl rfl rfl ?_
          refine r_iconst d_M_text_66 ic_1 ?_
          refine r_isub d_M_text_67 ?_
          exact rI_ret d_M_text_68 rfl H
  · replace H := H.1 hc_1
    refine r_aload_n (i := 0) d_M_text_4 rfl rfl ?_
    refine rc_VI (b := 0) (d' := 5) [] [] d_M_text_5 ml_M_230 rfl rfl (by decide) (by decide) rfl rfl (Nat.le_of_ble_eq_true rfl) H ?_
    intro r2 h1 H
    refine r_iconst d_M_text_8 ic_m1 ?_
    refine r_icmp_ne (tgt := 22) d_M_text_9 (by decide) (fun hc_9 => ?_) (fun hc_9 => ?_)
    · replace H := H.2 hc_9
      refine r_iload_n (i := 1) d_M_text_22 rfl rfl ?_
      refine r_iconst d_M_text_23 ic_1 ?_
      refine r_icmp_ne (tgt := 69) d_M_text_24 (by decide) (fun hc_24 => ?_) (fun hc_24 => ?_)
      · replace H := H.2 hc_24
        refine r_iconst d_M_text_69 ic_m1 ?_
        exact rI_ret d_M_text_70 rfl H
      · replace H := H.1 hc_24
        refine r_aload_n (i := 0) d_M_text_27 rfl rfl ?_
        refine r_getI (b := 0) (v := h1.1 0 13) d_M_text_28 fl_M_264 (by decide) rfl rfl rfl ?_
        refine r_iconst d_M_text_31 ic_4 ?_
        refine r_icmp_ge (tgt := 69) d_M_text_32 (by decide) (fun hc_32 => ?_) (fun hc_32 => ?_)
        · replace H := H.1 hc_32
          refine r_iconst d_M_text_69 ic_m1 ?_
          exact rI_ret d_M_text_70 rfl H
        · replace H := H.2 hc_32
          refine r_aload_n (i := 0) d_M_text_35 rfl rfl ?_
          refine r_aload_n (i := 0) d_M_text_36 rfl rfl ?_
          refine r_getI (b := 0) (v := h1.1 0 13) d_M_text_37 fl_M_264 (by decide) rfl rfl rfl ?_
          refine rc_VI (b := 0) (d' := 76) [.int (h1.1 0 13)] [] d_M_text_40 ml_M_233 rfl rfl (by decide) (by decide) rfl rfl (Nat.le_of_ble_eq_true rfl) H ?_
          intro r6 h5 H
          refine r_iconst d_M_text_43 ic_m1 ?_
          refine r_icmp_ne (tgt := 69) d_M_text_44 (by decide) (fun hc_44 => ?_) (fun hc_44 => ?_)
          · replace H := H.2 hc_44
            refine r_iconst d_M_text_69 ic_m1 ?_
            exact rI_ret d_M_text_70 rfl H
          · replace H := H.1 hc_44
            refine r_aload_n (i := 0) d_M_text_47 rfl rfl ?_
            refine r_iconst d_M_text_48 ic_0 ?_
            refine r_putI (b := 0) d_M_text_49 fp_M_90 ⟨rfl, rfl⟩ (by decide) rfl rfl ?_
            refine r_aload_n (i := 0) d_M_text_52 rfl rfl ?_
            refine r_dupr d_M_text_53 ?_
            refine r_getI (b := 0) (v := h5.1 0 13) d_M_text_54 fl_M_264 (by decide) rfl rfl rfl ?_
            refine r_iconst d_M_text_57 ic_1 ?_
            refine r_iadd d_M_text_58 ?_
            refine r_putI (b := 0) d_M_text_59 fp_M_264 ⟨rfl, rfl⟩ (by decide) rfl rfl ?_
            refine r_aload_n (i := 0) d_M_text_62 rfl rfl ?_
            refine r_getI (b := 0) (v := ((h5.1 0 13) + 1)) d_M_text_63 fl_M_264 (by decide) rfl rfl rfl ?_
            refine r_iconst d_M_text_66 ic_1 ?_
            refine r_isub d_M_text_67 ?_
            exact rI_ret d_M_text_68 rfl H
    · replace H := H.1 hc_9
      refine r_aload_n (i := 0) d_M_text_12 rfl rfl ?_
      refine r_iconst d_M_text_13 ic_0 ?_
      refine r_putI (b := 0) d_M_text_14 fp_M_90 ⟨rfl, rfl⟩ (by decide) rfl rfl ?_
      refine r_aload_n (i := 0) d_M_text_17 rfl rfl ?_
      refine rc_VI (b := 0) (d' := 1) [] [] d_M_text_18 ml_M_261 rfl rfl (by decide) (by decide) rfl rfl (Nat.le_of_ble_eq_true rfl) H ?_
      intro r4 h3 H
      exact rI_ret d_M_text_21 rfl H

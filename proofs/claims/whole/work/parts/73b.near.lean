theorem d_Di_findNth_0 : decode q_Di_findNth.2.1 0 = .ok (.iload_n 1, 1) := by decide +kernel
theorem d_Di_findNth_1 : decode q_Di_findNth.2.1 1 = .ok (.ifCond .lt 30, 3) := by decide +kernel
theorem d_Di_findNth_31 : decode q_Di_findNth.2.1 31 = .ok (.iconst 0, 1) := by decide +kernel
theorem d_Di_findNth_32 : decode q_Di_findNth.2.1 32 = .ok (.ireturn, 1) := by decide +kernel
theorem d_Di_findNth_4 : decode q_Di_findNth.2.1 4 = .ok (.iload_n 1, 1) := by decide +kernel
theorem d_Di_findNth_5 : decode q_Di_findNth.2.1 5 = .ok (.aload_n 0, 1) := by decide +kernel
theorem d_Di_findNth_6 : decode q_Di_findNth.2.1 6 = .ok (.getfield 37, 3) := by decide +kernel
theorem d_Di_findNth_9 : decode q_Di_findNth.2.1 9 = .ok (.aload_n 0, 1) := by decide +kernel
theorem d_Di_findNth_10 : decode q_Di_findNth.2.1 10 = .ok (.getfield 32, 3) := by decide +kernel
theorem d_Di_findNth_13 : decode q_Di_findNth.2.1 13 = .ok (.isub, 1) := by decide +kernel
theorem d_Di_findNth_14 : decode q_Di_findNth.2.1 14 = .ok (.iconst 1, 1) := by decide +kernel
theorem d_Di_findNth_15 : decode q_Di_findNth.2.1 15 = .ok (.iadd, 1) := by decide +kernel
theorem d_Di_findNth_16 : decode q_Di_findNth.2.1 16 = .ok (.aload_n 0, 1) := by decide +kernel
theorem d_Di_findNth_17 : decode q_Di_findNth.2.1 17 = .ok (.getfield 47, 3) := by decide +kernel
theorem d_Di_findNth_20 : decode q_Di_findNth.2.1 20 = .ok (.aload_n 0, 1) := by decide +kernel
theorem d_Di_findNth_21 : decode q_Di_findNth.2.1 21 = .ok (.getfield 42, 3) := by decide +kernel
theorem d_Di_findNth_24 : decode q_Di_findNth.2.1 24 = .ok (.isub, 1) := by decide +kernel
theorem d_Di_findNth_25 : decode q_Di_findNth.2.1 25 = .ok (.iconst 1, 1) := by decide +kernel
theorem d_Di_findNth_26 : decode q_Di_findNth.2.1 26 = .ok (.iadd, 1) := by decide +kernel
theorem d_Di_findNth_27 : decode q_Di_findNth.2.1 27 = .ok (.imul, 1) := by decide +kernel
theorem d_Di_findNth_28 : decode q_Di_findNth.2.1 28 = .ok (.if_icmp .lt 5, 3) := by decide +kernel
theorem d_Di_findNth_33 : decode q_Di_findNth.2.1 33 = .ok (.aload_n 0, 1) := by decide +kernel
theorem d_Di_findNth_34 : decode q_Di_findNth.2.1 34 = .ok (.aload_n 0, 1) := by decide +kernel
theorem d_Di_findNth_35 : decode q_Di_findNth.2.1 35 = .ok (.iload_n 1, 1) := by decide +kernel
theorem d_Di_findNth_36 : decode q_Di_findNth.2.1 36 = .ok (.invokevirtual 65, 3) := by decide +kernel
theorem ml_Di_65 : rx_CV "GlassRoom$Distances" 65 q_Di_farOfNth 1 := ⟨⟨(rx_s4 32 rfl rfl), (rx_s4 34 rfl rfl), (rx_s0 13 rfl rfl)⟩, ⟨(rx_s1 8 rfl rfl), q_Di_farOfNth_k, ⟨by decide, by decide, by decide +kernel⟩, by decide⟩⟩
theorem d_Di_findNth_39 : decode q_Di_findNth.2.1 39 = .ok (.putfield 68, 3) := by decide +kernel
theorem fp_Di_68 : rx_FP "GlassRoom$Distances" 68 2 9 (.int) := ⟨(RX2, TX2, 10), tyX2, rfl, by decide, (rx_s1 223 rfl rfl), rx_T2, tyX2_ok, nmX2, rfl, rfl⟩
theorem d_Di_findNth_42 : decode q_Di_findNth.2.1 42 = .ok (.iload_n 1, 1) := by decide +kernel
theorem d_Di_findNth_43 : decode q_Di_findNth.2.1 43 = .ok (.aload_n 0, 1) := by decide +kernel
theorem d_Di_findNth_44 : decode q_Di_findNth.2.1 44 = .ok (.aload_n 0, 1) := by decide +kernel
theorem d_Di_findNth_45 : decode q_Di_findNth.2.1 45 = .ok (.getfield 68, 3) := by decide +kernel
theorem fl_Di_68 : rx_F "GlassRoom$Distances" 68 2 9 := ⟨(RX2, TX2, 10), rfl, by decide, (rx_s1 223 rfl rfl), rx_T2⟩
theorem d_Di_findNth_48 : decode q_Di_findNth.2.1 48 = .ok (.iconst 1, 1) := by decide +kernel
theorem d_Di_findNth_49 : decode q_Di_findNth.2.1 49 = .ok (.isub, 1) := by decide +kernel
theorem d_Di_findNth_50 : decode q_Di_findNth.2.1 50 = .ok (.invokevirtual 71, 3) := by decide +kernel
theorem ml_Di_71 : rx_CV "GlassRoom$Distances" 71 q_Di_upTo 1 := ⟨⟨(rx_s4 37 rfl rfl), (rx_s4 38 rfl rfl), (rx_s4 39 rfl rfl)⟩, ⟨(rx_s1 8 rfl rfl), q_Di_upTo_k, ⟨by decide, by decide, by decide +kernel⟩, by decide⟩⟩
theorem d_Di_findNth_53 : decode q_Di_findNth.2.1 53 = .ok (.isub, 1) := by decide +kernel
theorem d_Di_findNth_54 : decode q_Di_findNth.2.1 54 = .ok (.istore_n 2, 1) := by decide +kernel
theorem d_Di_findNth_55 : decode q_Di_findNth.2.1 55 = .ok (.aload_n 0, 1) := by decide +kernel
theorem d_Di_findNth_56 : decode q_Di_findNth.2.1 56 = .ok (.getfield 32, 3) := by decide +kernel
theorem d_Di_findNth_59 : decode q_Di_findNth.2.1 59 = .ok (.istore_n 3, 1) := by decide +kernel
theorem d_Di_findNth_60 : decode q_Di_findNth.2.1 60 = .ok (.iload_n 3, 1) := by decide +kernel
theorem d_Di_findNth_61 : decode q_Di_findNth.2.1 61 = .ok (.aload_n 0, 1) := by decide +kernel
theorem d_Di_findNth_62 : decode q_Di_findNth.2.1 62 = .ok (.getfield 37, 3) := by decide +kernel
theorem d_Di_findNth_65 : decode q_Di_findNth.2.1 65 = .ok (.if_icmp .gt 64, 3) := by decide +kernel
theorem d_Di_findNth_129 : decode q_Di_findNth.2.1 129 = .ok (.iconst 0, 1) := by decide +kernel
theorem d_Di_findNth_130 : decode q_Di_findNth.2.1 130 = .ok (.ireturn, 1) := by decide +kernel
theorem d_Di_findNth_68 : decode q_Di_findNth.2.1 68 = .ok (.aload_n 0, 1) := by decide +kernel
theorem d_Di_findNth_69 : decode q_Di_findNth.2.1 69 = .ok (.getfield 42, 3) := by decide +kernel
theorem d_Di_findNth_72 : decode q_Di_findNth.2.1 72 = .ok (.istore 4, 2) := by decide +kernel
theorem d_Di_findNth_74 : decode q_Di_findNth.2.1 74 = .ok (.iload 4, 2) := by decide +kernel
theorem d_Di_findNth_76 : decode q_Di_findNth.2.1 76 = .ok (.aload_n 0, 1) := by decide +kernel
theorem d_Di_findNth_77 : decode q_Di_findNth.2.1 77 = .ok (.getfield 47, 3) := by decide +kernel
theorem d_Di_findNth_80 : decode q_Di_findNth.2.1 80 = .ok (.if_icmp .gt 43, 3) := by decide +kernel
theorem d_Di_findNth_123 : decode q_Di_findNth.2.1 123 = .ok (.iinc 3 1, 3) := by decide +kernel
theorem d_Di_findNth_126 : decode q_Di_findNth.2.1 126 = .ok (.goto (-66), 3) := by decide +kernel
theorem d_Di_findNth_83 : decode q_Di_findNth.2.1 83 = .ok (.aload_n 0, 1) := by decide +kernel
theorem d_Di_findNth_84 : decode q_Di_findNth.2.1 84 = .ok (.iload_n 3, 1) := by decide +kernel
theorem d_Di_findNth_85 : decode q_Di_findNth.2.1 85 = .ok (.iload 4, 2) := by decide +kernel
theorem d_Di_findNth_87 : decode q_Di_findNth.2.1 87 = .ok (.invokevirtual 74, 3) := by decide +kernel
theorem ml_Di_74 : rx_CV "GlassRoom$Distances" 74 q_Di_farAt 2 := ⟨⟨(rx_s4 41 rfl rfl), (rx_s4 42 rfl rfl), (rx_s4 43 rfl rfl)⟩, ⟨(rx_s1 8 rfl rfl), q_Di_farAt_k, ⟨by decide, by decide, by decide +kernel⟩, by decide⟩⟩
theorem d_Di_findNth_90 : decode q_Di_findNth.2.1 90 = .ok (.aload_n 0, 1) := by decide +kernel
theorem d_Di_findNth_91 : decode q_Di_findNth.2.1 91 = .ok (.getfield 68, 3) := by decide +kernel
theorem d_Di_findNth_94 : decode q_Di_findNth.2.1 94 = .ok (.if_icmp .ne 23, 3) := by decide +kernel
theorem d_Di_findNth_97 : decode q_Di_findNth.2.1 97 = .ok (.iload_n 2, 1) := by decide +kernel
theorem d_Di_findNth_98 : decode q_Di_findNth.2.1 98 = .ok (.ifCond .ne 16, 3) := by decide +kernel
theorem d_Di_findNth_101 : decode q_Di_findNth.2.1 101 = .ok (.aload_n 0, 1) := by decide +kernel
theorem d_Di_findNth_102 : decode q_Di_findNth.2.1 102 = .ok (.iload_n 3, 1) := by decide +kernel
theorem d_Di_findNth_103 : decode q_Di_findNth.2.1 103 = .ok (.putfield 78, 3) := by decide +kernel
theorem fp_Di_78 : rx_FP "GlassRoom$Distances" 78 2 7 (.int) := ⟨(RX2, TX2, 10), tyX2, rfl, by decide, (rx_s1 219 rfl rfl), rx_T2, tyX2_ok, nmX2, rfl, rfl⟩
theorem d_Di_findNth_106 : decode q_Di_findNth.2.1 106 = .ok (.aload_n 0, 1) := by decide +kernel
theorem d_Di_findNth_107 : decode q_Di_findNth.2.1 107 = .ok (.iload 4, 2) := by decide +kernel
theorem d_Di_findNth_109 : decode q_Di_findNth.2.1 109 = .ok (.putfield 81, 3) := by decide +kernel
theorem fp_Di_81 : rx_FP "GlassRoom$Distances" 81 2 8 (.int) := ⟨(RX2, TX2, 10), tyX2, rfl, by decide, (rx_s1 221 rfl rfl), rx_T2, tyX2_ok, nmX2, rfl, rfl⟩
theorem d_Di_findNth_112 : decode q_Di_findNth.2.1 112 = .ok (.iconst 1, 1) := by decide +kernel
theorem d_Di_findNth_113 : decode q_Di_findNth.2.1 113 = .ok (.ireturn, 1) := by decide +kernel
theorem d_Di_findNth_114 : decode q_Di_findNth.2.1 114 = .ok (.iinc 2 (-1), 3) := by decide +kernel
theorem d_Di_findNth_117 : decode q_Di_findNth.2.1 117 = .ok (.iinc 4 1, 3) := by decide +kernel
theorem d_Di_findNth_120 : decode q_Di_findNth.2.1 120 = .ok (.goto (-46), 3) := by decide +kernel
theorem d_Di_farOfNth_0 : decode q_Di_farOfNth.2.1 0 = .ok (.iconst 0, 1) := by decide +kernel
theorem d_Di_farOfNth_1 : decode q_Di_farOfNth.2.1 1 = .ok (.istore_n 2, 1) := by decide +kernel
theorem d_Di_farOfNth_2 : decode q_Di_farOfNth.2.1 2 = .ok (.ldc 84, 2) := by decide +kernel
theorem ck_Di_84 : Cond.constant "GlassRoom$Distances" 84 (131072) ∈ rx_gw := (rx_s4 36 rfl rfl)
theorem d_Di_farOfNth_4 : decode q_Di_farOfNth.2.1 4 = .ok (.istore_n 3, 1) := by decide +kernel
theorem d_Di_farOfNth_5 : decode q_Di_farOfNth.2.1 5 = .ok (.iconst 0, 1) := by decide +kernel
theorem d_Di_farOfNth_6 : decode q_Di_farOfNth.2.1 6 = .ok (.istore 4, 2) := by decide +kernel
theorem d_Di_farOfNth_8 : decode q_Di_farOfNth.2.1 8 = .ok (.iload 4, 2) := by decide +kernel
theorem d_Di_farOfNth_10 : decode q_Di_farOfNth.2.1 10 = .ok (.bipush 32, 2) := by decide +kernel
theorem d_Di_farOfNth_12 : decode q_Di_farOfNth.2.1 12 = .ok (.if_icmp .ge 42, 3) := by decide +kernel
theorem d_Di_farOfNth_15 : decode q_Di_farOfNth.2.1 15 = .ok (.iload_n 2, 1) := by decide +kernel
theorem d_Di_farOfNth_16 : decode q_Di_farOfNth.2.1 16 = .ok (.iload_n 3, 1) := by decide +kernel
theorem d_Di_farOfNth_17 : decode q_Di_farOfNth.2.1 17 = .ok (.if_icmp .ge 37, 3) := by decide +kernel
theorem d_Di_farOfNth_20 : decode q_Di_farOfNth.2.1 20 = .ok (.iload_n 2, 1) := by decide +kernel
theorem d_Di_farOfNth_21 : decode q_Di_farOfNth.2.1 21 = .ok (.iload_n 3, 1) := by decide +kernel
theorem d_Di_farOfNth_22 : decode q_Di_farOfNth.2.1 22 = .ok (.iadd, 1) := by decide +kernel
theorem d_Di_farOfNth_23 : decode q_Di_farOfNth.2.1 23 = .ok (.iconst 2, 1) := by decide +kernel
theorem d_Di_farOfNth_24 : decode q_Di_farOfNth.2.1 24 = .ok (.idiv, 1) := by decide +kernel
theorem d_Di_farOfNth_25 : decode q_Di_farOfNth.2.1 25 = .ok (.istore 5, 2) := by decide +kernel
theorem d_Di_farOfNth_27 : decode q_Di_farOfNth.2.1 27 = .ok (.aload_n 0, 1) := by decide +kernel
theorem d_Di_farOfNth_28 : decode q_Di_farOfNth.2.1 28 = .ok (.iload 5, 2) := by decide +kernel
theorem d_Di_farOfNth_54 : decode q_Di_farOfNth.2.1 54 = .ok (.iload_n 2, 1) := by decide +kernel
theorem d_Di_farOfNth_55 : decode q_Di_farOfNth.2.1 55 = .ok (.ireturn, 1) := by decide +kernel
theorem d_Di_farOfNth_30 : decode q_Di_farOfNth.2.1 30 = .ok (.invokevirtual 71, 3) := by decide +kernel
theorem d_Di_farOfNth_33 : decode q_Di_farOfNth.2.1 33 = .ok (.iload_n 1, 1) := by decide +kernel
theorem d_Di_farOfNth_34 : decode q_Di_farOfNth.2.1 34 = .ok (.if_icmp .le 9, 3) := by decide +kernel
theorem d_Di_farOfNth_43 : decode q_Di_farOfNth.2.1 43 = .ok (.iload 5, 2) := by decide +kernel
theorem d_Di_farOfNth_45 : decode q_Di_farOfNth.2.1 45 = .ok (.iconst 1, 1) := by decide +kernel
theorem d_Di_farOfNth_46 : decode q_Di_farOfNth.2.1 46 = .ok (.iadd, 1) := by decide +kernel
theorem d_Di_farOfNth_47 : decode q_Di_farOfNth.2.1 47 = .ok (.istore_n 2, 1) := by decide +kernel
theorem d_Di_farOfNth_37 : decode q_Di_farOfNth.2.1 37 = .ok (.iload 5, 2) := by decide +kernel
theorem d_Di_farOfNth_39 : decode q_Di_farOfNth.2.1 39 = .ok (.istore_n 3, 1) := by decide +kernel
theorem d_Di_farOfNth_40 : decode q_Di_farOfNth.2.1 40 = .ok (.goto 8, 3) := by decide +kernel
theorem d_Di_farOfNth_48 : decode q_Di_farOfNth.2.1 48 = .ok (.iinc 4 1, 3) := by decide +kernel
theorem d_Di_farOfNth_51 : decode q_Di_farOfNth.2.1 51 = .ok (.goto (-43), 3) := by decide +kernel
theorem d_GR_near_0 : decode q_GR_near.2.1 0 = .ok (.aload_n 0, 1) := by decide +kernel
theorem d_GR_near_1 : decode q_GR_near.2.1 1 = .ok (.getfield 19, 3) := by decide +kernel
theorem d_GR_near_4 : decode q_GR_near.2.1 4 = .ok (.iload_n 1, 1) := by decide +kernel
theorem d_GR_near_5 : decode q_GR_near.2.1 5 = .ok (.invokevirtual 144, 3) := by decide +kernel
theorem d_GR_near_8 : decode q_GR_near.2.1 8 = .ok (.ifCond .eq 25, 3) := by decide +kernel
theorem d_GR_near_33 : decode q_GR_near.2.1 33 = .ok (.ldc 196, 2) := by decide +kernel
theorem d_GR_near_35 : decode q_GR_near.2.1 35 = .ok (.ireturn, 1) := by decide +kernel
theorem d_GR_near_11 : decode q_GR_near.2.1 11 = .ok (.aload_n 0, 1) := by decide +kernel
theorem d_GR_near_12 : decode q_GR_near.2.1 12 = .ok (.getfield 19, 3) := by decide +kernel
theorem d_GR_near_15 : decode q_GR_near.2.1 15 = .ok (.iload_n 2, 1) := by decide +kernel
theorem d_GR_near_16 : decode q_GR_near.2.1 16 = .ok (.invokevirtual 144, 3) := by decide +kernel
theorem d_GR_near_19 : decode q_GR_near.2.1 19 = .ok (.ifCond .eq 14, 3) := by decide +kernel
theorem d_GR_near_22 : decode q_GR_near.2.1 22 = .ok (.iload 4, 2) := by decide +kernel
theorem d_GR_near_24 : decode q_GR_near.2.1 24 = .ok (.ifCond .lt 9, 3) := by decide +kernel
theorem d_GR_near_27 : decode q_GR_near.2.1 27 = .ok (.iload 4, 2) := by decide +kernel
theorem d_GR_near_29 : decode q_GR_near.2.1 29 = .ok (.iconst 2, 1) := by decide +kernel
theorem d_GR_near_30 : decode q_GR_near.2.1 30 = .ok (.if_icmp .le 6, 3) := by decide +kernel
theorem d_GR_near_36 : decode q_GR_near.2.1 36 = .ok (.aload_n 0, 1) := by decide +kernel
theorem d_GR_near_37 : decode q_GR_near.2.1 37 = .ok (.getfield 68, 3) := by decide +kernel
theorem fl_GR_68 : rx_F "GlassRoom" 68 11 9 := ⟨(RX11, TX11, 17), rfl, by decide, (rx_s2 108 rfl rfl), rx_T11⟩
theorem d_GR_near_40 : decode q_GR_near.2.1 40 = .ok (.iload_n 1, 1) := by decide +kernel
theorem d_GR_near_41 : decode q_GR_near.2.1 41 = .ok (.iload_n 2, 1) := by decide +kernel
theorem d_GR_near_42 : decode q_GR_near.2.1 42 = .ok (.invokevirtual 227, 3) := by decide +kernel
theorem ml_GR_227 : rx_CV "GlassRoom" 227 q_Di_measure 2 := ⟨⟨(rx_s4 19 rfl rfl), (rx_s4 20 rfl rfl), (rx_s4 21 rfl rfl)⟩, ⟨(rx_s1 8 rfl rfl), q_Di_measure_k, ⟨by decide, by decide, by decide +kernel⟩, by decide⟩⟩
theorem d_GR_near_45 : decode q_GR_near.2.1 45 = .ok (.aload_n 0, 1) := by decide +kernel
theorem d_GR_near_46 : decode q_GR_near.2.1 46 = .ok (.getfield 68, 3) := by decide +kernel
theorem d_GR_near_49 : decode q_GR_near.2.1 49 = .ok (.iload_n 3, 1) := by decide +kernel
theorem d_GR_near_50 : decode q_GR_near.2.1 50 = .ok (.invokevirtual 230, 3) := by decide +kernel
theorem ml_GR_230 : rx_CV "GlassRoom" 230 q_Di_findNth 1 := ⟨⟨(rx_s4 28 rfl rfl), (rx_s4 29 rfl rfl), (rx_s4 30 rfl rfl)⟩, ⟨(rx_s1 8 rfl rfl), q_Di_findNth_k, ⟨by decide, by decide, by decide +kernel⟩, by decide⟩⟩
theorem d_GR_near_53 : decode q_GR_near.2.1 53 = .ok (.ifCond .ne 6, 3) := by decide +kernel
theorem d_GR_near_56 : decode q_GR_near.2.1 56 = .ok (.ldc 196, 2) := by decide +kernel
theorem d_GR_near_58 : decode q_GR_near.2.1 58 = .ok (.ireturn, 1) := by decide +kernel
theorem d_GR_near_59 : decode q_GR_near.2.1 59 = .ok (.iload 4, 2) := by decide +kernel
theorem d_GR_near_61 : decode q_GR_near.2.1 61 = .ok (.ifCond .ne 11, 3) := by decide +kernel
theorem d_GR_near_64 : decode q_GR_near.2.1 64 = .ok (.aload_n 0, 1) := by decide +kernel
theorem d_GR_near_65 : decode q_GR_near.2.1 65 = .ok (.getfield 68, 3) := by decide +kernel
theorem d_GR_near_68 : decode q_GR_near.2.1 68 = .ok (.getfield 233, 3) := by decide +kernel
theorem fl_GR_233 : rx_F "GlassRoom" 233 2 7 := ⟨(RX2, TX2, 10), rfl, by decide, (rx_s1 220 rfl rfl), rx_T2⟩
theorem d_GR_near_71 : decode q_GR_near.2.1 71 = .ok (.ireturn, 1) := by decide +kernel
theorem d_GR_near_72 : decode q_GR_near.2.1 72 = .ok (.iload 4, 2) := by decide +kernel
theorem d_GR_near_74 : decode q_GR_near.2.1 74 = .ok (.iconst 1, 1) := by decide +kernel
theorem d_GR_near_75 : decode q_GR_near.2.1 75 = .ok (.if_icmp .ne 13, 3) := by decide +kernel
theorem d_GR_near_78 : decode q_GR_near.2.1 78 = .ok (.aload_n 0, 1) := by decide +kernel
theorem d_GR_near_79 : decode q_GR_near.2.1 79 = .ok (.getfield 68, 3) := by decide +kernel
theorem d_GR_near_82 : decode q_GR_near.2.1 82 = .ok (.getfield 236, 3) := by decide +kernel
theorem fl_GR_236 : rx_F "GlassRoom" 236 2 8 := ⟨(RX2, TX2, 10), rfl, by decide, (rx_s1 222 rfl rfl), rx_T2⟩
theorem d_GR_near_85 : decode q_GR_near.2.1 85 = .ok (.goto 10, 3) := by decide +kernel
theorem d_GR_near_88 : decode q_GR_near.2.1 88 = .ok (.aload_n 0, 1) := by decide +kernel
theorem d_GR_near_89 : decode q_GR_near.2.1 89 = .ok (.getfield 68, 3) := by decide +kernel
theorem d_GR_near_92 : decode q_GR_near.2.1 92 = .ok (.getfield 239, 3) := by decide +kernel
theorem fl_GR_239 : rx_F "GlassRoom" 239 2 9 := ⟨(RX2, TX2, 10), rfl, by decide, (rx_s1 224 rfl rfl), rx_T2⟩
theorem d_GR_near_95 : decode q_GR_near.2.1 95 = .ok (.ireturn, 1) := by decide +kernel
theorem d_GR_within_0 : decode q_GR_within.2.1 0 = .ok (.aload_n 0, 1) := by decide +kernel
theorem d_GR_within_1 : decode q_GR_within.2.1 1 = .ok (.getfield 19, 3) := by decide +kernel
theorem d_GR_within_4 : decode q_GR_within.2.1 4 = .ok (.iload_n 1, 1) := by decide +kernel
theorem d_GR_within_5 : decode q_GR_within.2.1 5 = .ok (.invokevirtual 144, 3) := by decide +kernel
theorem d_GR_within_8 : decode q_GR_within.2.1 8 = .ok (.ifCond .eq 24, 3) := by decide +kernel
theorem d_GR_within_32 : decode q_GR_within.2.1 32 = .ok (.iconst (-1), 1) := by decide +kernel
theorem d_GR_within_33 : decode q_GR_within.2.1 33 = .ok (.ireturn, 1) := by decide +kernel
theorem d_GR_within_11 : decode q_GR_within.2.1 11 = .ok (.aload_n 0, 1) := by decide +kernel
theorem d_GR_within_12 : decode q_GR_within.2.1 12 = .ok (.getfield 19, 3) := by decide +kernel
theorem d_GR_within_15 : decode q_GR_within.2.1 15 = .ok (.iload_n 2, 1) := by decide +kernel
theorem d_GR_within_16 : decode q_GR_within.2.1 16 = .ok (.invokevirtual 144, 3) := by decide +kernel
theorem d_GR_within_19 : decode q_GR_within.2.1 19 = .ok (.ifCond .eq 13, 3) := by decide +kernel
theorem d_GR_within_22 : decode q_GR_within.2.1 22 = .ok (.iload_n 3, 1) := by decide +kernel
theorem d_GR_within_23 : decode q_GR_within.2.1 23 = .ok (.ifCond .lt 9, 3) := by decide +kernel
theorem d_GR_within_26 : decode q_GR_within.2.1 26 = .ok (.iload_n 3, 1) := by decide +kernel
theorem d_GR_within_27 : decode q_GR_within.2.1 27 = .ok (.bipush 99, 2) := by decide +kernel
theorem d_GR_within_29 : decode q_GR_within.2.1 29 = .ok (.if_icmp .le 5, 3) := by decide +kernel
theorem d_GR_within_34 : decode q_GR_within.2.1 34 = .ok (.aload_n 0, 1) := by decide +kernel
theorem d_GR_within_35 : decode q_GR_within.2.1 35 = .ok (.getfield 68, 3) := by decide +kernel
theorem d_GR_within_38 : decode q_GR_within.2.1 38 = .ok (.iload_n 1, 1) := by decide +kernel
theorem d_GR_within_39 : decode q_GR_within.2.1 39 = .ok (.iload_n 2, 1) := by decide +kernel
theorem d_GR_within_40 : decode q_GR_within.2.1 40 = .ok (.invokevirtual 227, 3) := by decide +kernel
theorem d_GR_within_43 : decode q_GR_within.2.1 43 = .ok (.aload_n 0, 1) := by decide +kernel
theorem d_GR_within_44 : decode q_GR_within.2.1 44 = .ok (.getfield 68, 3) := by decide +kernel
theorem d_GR_within_47 : decode q_GR_within.2.1 47 = .ok (.iload_n 3, 1) := by decide +kernel
theorem d_GR_within_48 : decode q_GR_within.2.1 48 = .ok (.iload_n 3, 1) := by decide +kernel
theorem d_GR_within_49 : decode q_GR_within.2.1 49 = .ok (.imul, 1) := by decide +kernel
theorem d_GR_within_50 : decode q_GR_within.2.1 50 = .ok (.invokevirtual 242, 3) := by decide +kernel
theorem ml_GR_242 : rx_CV "GlassRoom" 242 q_Di_upTo 1 := ⟨⟨(rx_s4 49 rfl rfl), (rx_s4 38 rfl rfl), (rx_s4 39 rfl rfl)⟩, ⟨(rx_s1 8 rfl rfl), q_Di_upTo_k, ⟨by decide, by decide, by decide +kernel⟩, by decide⟩⟩
theorem d_GR_within_53 : decode q_GR_within.2.1 53 = .ok (.ireturn, 1) := by decide +kernel
theorem d_M_near_0 : decode q_M_near.2.1 0 = .ok (.aload_n 0, 1) := by decide +kernel
theorem d_M_near_1 : decode q_M_near.2.1 1 = .ok (.iload_n 1, 1) := by decide +kernel
theorem d_M_near_2 : decode q_M_near.2.1 2 = .ok (.invokevirtual 267, 3) := by decide +kernel
theorem d_M_near_5 : decode q_M_near.2.1 5 = .ok (.ifCond .eq 25, 3) := by decide +kernel
theorem d_M_near_30 : decode q_M_near.2.1 30 = .ok (.ldc_w 308, 3) := by decide +kernel
theorem d_M_near_33 : decode q_M_near.2.1 33 = .ok (.ireturn, 1) := by decide +kernel
theorem d_M_near_8 : decode q_M_near.2.1 8 = .ok (.aload_n 0, 1) := by decide +kernel
theorem d_M_near_9 : decode q_M_near.2.1 9 = .ok (.iload_n 2, 1) := by decide +kernel
theorem d_M_near_10 : decode q_M_near.2.1 10 = .ok (.invokevirtual 267, 3) := by decide +kernel
theorem d_M_near_13 : decode q_M_near.2.1 13 = .ok (.ifCond .eq 17, 3) := by decide +kernel
theorem d_M_near_16 : decode q_M_near.2.1 16 = .ok (.iload_n 3, 1) := by decide +kernel
theorem d_M_near_17 : decode q_M_near.2.1 17 = .ok (.ifCond .lt 13, 3) := by decide +kernel
theorem d_M_near_20 : decode q_M_near.2.1 20 = .ok (.iload 4, 2) := by decide +kernel
theorem d_M_near_22 : decode q_M_near.2.1 22 = .ok (.iconst 0, 1) := by decide +kernel
theorem d_M_near_23 : decode q_M_near.2.1 23 = .ok (.iconst 2, 1) := by decide +kernel
theorem d_M_near_24 : decode q_M_near.2.1 24 = .ok (.invokestatic 198, 3) := by decide +kernel
theorem d_M_near_27 : decode q_M_near.2.1 27 = .ok (.ifCond .ne 7, 3) := by decide +kernel
theorem d_M_near_34 : decode q_M_near.2.1 34 = .ok (.aload_n 0, 1) := by decide +kernel
theorem d_M_near_35 : decode q_M_near.2.1 35 = .ok (.iload_n 1, 1) := by decide +kernel
theorem d_M_near_36 : decode q_M_near.2.1 36 = .ok (.iload_n 2, 1) := by decide +kernel
theorem d_M_near_37 : decode q_M_near.2.1 37 = .ok (.invokevirtual 331, 3) := by decide +kernel
theorem ml_M_331 : rx_CV "GlassRoomModel" 331 q_M_layNear 2 := ⟨⟨(rx_s7 20 rfl rfl), (rx_s7 22 rfl rfl), (rx_s0 62 rfl rfl)⟩, ⟨(rx_s1 13 rfl rfl), q_M_layNear_k, ⟨by decide, by decide, by decide +kernel⟩, by decide⟩⟩
theorem d_M_near_40 : decode q_M_near.2.1 40 = .ok (.iload_n 3, 1) := by decide +kernel
theorem d_M_near_41 : decode q_M_near.2.1 41 = .ok (.aload_n 0, 1) := by decide +kernel
theorem d_M_near_42 : decode q_M_near.2.1 42 = .ok (.getfield 328, 3) := by decide +kernel
theorem d_M_near_45 : decode q_M_near.2.1 45 = .ok (.if_icmp .lt 9, 3) := by decide +kernel
theorem d_M_near_54 : decode q_M_near.2.1 54 = .ok (.iload 4, 2) := by decide +kernel
theorem d_M_near_56 : decode q_M_near.2.1 56 = .ok (.ifCond .ne 12, 3) := by decide +kernel
theorem d_M_near_59 : decode q_M_near.2.1 59 = .ok (.aload_n 0, 1) := by decide +kernel
theorem d_M_near_60 : decode q_M_near.2.1 60 = .ok (.getfield 62, 3) := by decide +kernel
theorem d_M_near_63 : decode q_M_near.2.1 63 = .ok (.iload_n 3, 1) := by decide +kernel
theorem d_M_near_64 : decode q_M_near.2.1 64 = .ok (.iaload, 1) := by decide +kernel
theorem d_M_near_65 : decode q_M_near.2.1 65 = .ok (.goto 24, 3) := by decide +kernel
theorem d_M_near_89 : decode q_M_near.2.1 89 = .ok (.ireturn, 1) := by decide +kernel
theorem d_M_near_68 : decode q_M_near.2.1 68 = .ok (.iload 4, 2) := by decide +kernel
theorem d_M_near_70 : decode q_M_near.2.1 70 = .ok (.iconst 1, 1) := by decide +kernel
theorem d_M_near_71 : decode q_M_near.2.1 71 = .ok (.if_icmp .ne 12, 3) := by decide +kernel
theorem d_M_near_74 : decode q_M_near.2.1 74 = .ok (.aload_n 0, 1) := by decide +kernel
theorem d_M_near_75 : decode q_M_near.2.1 75 = .ok (.getfield 65, 3) := by decide +kernel
theorem d_M_near_78 : decode q_M_near.2.1 78 = .ok (.iload_n 3, 1) := by decide +kernel
theorem d_M_near_79 : decode q_M_near.2.1 79 = .ok (.iaload, 1) := by decide +kernel
theorem d_M_near_80 : decode q_M_near.2.1 80 = .ok (.goto 9, 3) := by decide +kernel
theorem d_M_near_83 : decode q_M_near.2.1 83 = .ok (.aload_n 0, 1) := by decide +kernel
theorem d_M_near_84 : decode q_M_near.2.1 84 = .ok (.getfield 68, 3) := by decide +kernel
theorem d_M_near_87 : decode q_M_near.2.1 87 = .ok (.iload_n 3, 1) := by decide +kernel
theorem d_M_near_88 : decode q_M_near.2.1 88 = .ok (.iaload, 1) := by decide +kernel
theorem d_M_near_48 : decode q_M_near.2.1 48 = .ok (.ldc_w 308, 3) := by decide +kernel
theorem d_M_near_51 : decode q_M_near.2.1 51 = .ok (.goto 38, 3) := by decide +kernel
theorem d_M_within_0 : decode q_M_within.2.1 0 = .ok (.aload_n 0, 1) := by decide +kernel
theorem d_M_within_1 : decode q_M_within.2.1 1 = .ok (.iload_n 1, 1) := by decide +kernel
theorem d_M_within_2 : decode q_M_within.2.1 2 = .ok (.invokevirtual 267, 3) := by decide +kernel
theorem d_M_within_5 : decode q_M_within.2.1 5 = .ok (.ifCond .eq 21, 3) := by decide +kernel
theorem d_M_within_26 : decode q_M_within.2.1 26 = .ok (.iconst (-1), 1) := by decide +kernel
theorem d_M_within_27 : decode q_M_within.2.1 27 = .ok (.ireturn, 1) := by decide +kernel
theorem d_M_within_8 : decode q_M_within.2.1 8 = .ok (.aload_n 0, 1) := by decide +kernel
theorem d_M_within_9 : decode q_M_within.2.1 9 = .ok (.iload_n 2, 1) := by decide +kernel
theorem d_M_within_10 : decode q_M_within.2.1 10 = .ok (.invokevirtual 267, 3) := by decide +kernel
theorem d_M_within_13 : decode q_M_within.2.1 13 = .ok (.ifCond .eq 13, 3) := by decide +kernel
theorem d_M_within_16 : decode q_M_within.2.1 16 = .ok (.iload_n 3, 1) := by decide +kernel
theorem d_M_within_17 : decode q_M_within.2.1 17 = .ok (.iconst 0, 1) := by decide +kernel
theorem d_M_within_18 : decode q_M_within.2.1 18 = .ok (.bipush 99, 2) := by decide +kernel
theorem d_M_within_20 : decode q_M_within.2.1 20 = .ok (.invokestatic 198, 3) := by decide +kernel
theorem d_M_within_23 : decode q_M_within.2.1 23 = .ok (.ifCond .ne 5, 3) := by decide +kernel
theorem d_M_within_28 : decode q_M_within.2.1 28 = .ok (.aload_n 0, 1) := by decide +kernel
theorem d_M_within_29 : decode q_M_within.2.1 29 = .ok (.iload_n 1, 1) := by decide +kernel
theorem d_M_within_30 : decode q_M_within.2.1 30 = .ok (.iload_n 2, 1) := by decide +kernel
theorem d_M_within_31 : decode q_M_within.2.1 31 = .ok (.invokevirtual 331, 3) := by decide +kernel
theorem d_M_within_34 : decode q_M_within.2.1 34 = .ok (.iconst 0, 1) := by decide +kernel
theorem d_M_within_35 : decode q_M_within.2.1 35 = .ok (.istore 4, 2) := by decide +kernel
theorem d_M_within_37 : decode q_M_within.2.1 37 = .ok (.iload 4, 2) := by decide +kernel
theorem d_M_within_39 : decode q_M_within.2.1 39 = .ok (.aload_n 0, 1) := by decide +kernel
theorem d_M_within_40 : decode q_M_within.2.1 40 = .ok (.getfield 328, 3) := by decide +kernel
theorem d_M_within_43 : decode q_M_within.2.1 43 = .ok (.if_icmp .ge 22, 3) := by decide +kernel
theorem d_M_within_46 : decode q_M_within.2.1 46 = .ok (.aload_n 0, 1) := by decide +kernel
theorem d_M_within_47 : decode q_M_within.2.1 47 = .ok (.getfield 68, 3) := by decide +kernel
theorem d_M_within_50 : decode q_M_within.2.1 50 = .ok (.iload 4, 2) := by decide +kernel
theorem d_M_within_65 : decode q_M_within.2.1 65 = .ok (.iload 4, 2) := by decide +kernel
theorem d_M_within_67 : decode q_M_within.2.1 67 = .ok (.ireturn, 1) := by decide +kernel
theorem d_M_within_52 : decode q_M_within.2.1 52 = .ok (.iaload, 1) := by decide +kernel
theorem d_M_within_53 : decode q_M_within.2.1 53 = .ok (.iload_n 3, 1) := by decide +kernel
theorem d_M_within_54 : decode q_M_within.2.1 54 = .ok (.iload_n 3, 1) := by decide +kernel
theorem d_M_within_55 : decode q_M_within.2.1 55 = .ok (.imul, 1) := by decide +kernel
theorem d_M_within_56 : decode q_M_within.2.1 56 = .ok (.if_icmp .gt 9, 3) := by decide +kernel
theorem d_M_within_59 : decode q_M_within.2.1 59 = .ok (.iinc 4 1, 3) := by decide +kernel
theorem d_M_within_62 : decode q_M_within.2.1 62 = .ok (.goto (-25), 3) := by decide +kernel
set_option maxHeartbeats 4000000 in
set_option maxRecDepth 20000 in
theorem w_Di_findNth {G : rx_Gh} {hp : rx_Hp} {F : Int32 → rx_Hp → Prop} (a1 : Int32) (H : (a1 < 0 → F 0 hp) ∧ (¬ a1 < 0 → (a1 < ((((hp.1 40 4) - (hp.1 40 3)) + 1) * (((hp.1 40 6) - (hp.1 40 5)) + 1)) → Ev wC G 2 q_Di_farOfNth [.ref 40, .int a1] hp (rI fun r2 h1 => Ev wC G 1 q_Di_upTo [.ref 40, .int (r2 - 1)] (rx_pf h1 40 9 r2) (rI fun r4 h3 => Rn wC G 3 q_Di_findNth 60 [some (.ref 40), none, some (.int (a1 - r4)), some (.int (h3.1 40 3)), none] [] h3 (rI F)))) ∧ (¬ a1 < ((((hp.1 40 4) - (hp.1 40 3)) + 1) * (((hp.1 40 6) - (hp.1 40 5)) + 1)) → F 0 hp))) : Ev wC G 3 q_Di_findNth [.ref 40, .int a1] hp (rI F) := by
  refine ev_of rfl (Nat.le_of_ble_eq_true rfl) rfl ?_
  show Rn wC G 3 q_Di_findNth 0 [some (.ref 40), some (.int a1), none, none, none] [] hp (rI F)
  refine r_iload_n (i := 1) d_Di_findNth_0 rfl rfl ?_
  refine r_if_lt (tgt := 31) d_Di_findNth_1 (by decide) (fun hc_1 => ?_) (fun hc_1 => ?_)
  · replace H := H.1 hc_1
    refine r_iconst d_Di_findNth_31 ic_0 ?_
    exact rZ_ret d_Di_findNth_32 rfl (Or.inl rfl) H
  · replace H := H.2 hc_1
    refine r_iload_n (i := 1) d_Di_findNth_4 rfl rfl ?_
    refine r_aload_n (i := 0) d_Di_findNth_5 rfl rfl ?_
    refine r_getI (b := 40) (v := hp.1 40 4) d_Di_findNth_6 fl_Di_37 (by decide) rfl rfl rfl ?_
    refine r_aload_n (i := 0) d_Di_findNth_9 rfl rfl ?_
    refine r_getI (b := 40) (v := hp.1 40 3) d_Di_findNth_10 fl_Di_32 (by decide) rfl rfl rfl ?_
    refine r_isub d_Di_findNth_13 ?_
    refine r_iconst d_Di_findNth_14 ic_1 ?_
    refine r_iadd d_Di_findNth_15 ?_
    refine r_aload_n (i := 0) d_Di_findNth_16 rfl rfl ?_
    refine r_getI (b := 40) (v := hp.1 40 6) d_Di_findNth_17 fl_Di_47 (by decide) rfl rfl rfl ?_
    refine r_aload_n (i := 0) d_Di_findNth_20 rfl rfl ?_
    refine r_getI (b := 40) (v := hp.1 40 5) d_Di_findNth_21 fl_Di_42 (by decide) rfl rfl rfl ?_
    refine r_isub d_Di_findNth_24 ?_
    refine r_iconst d_Di_findNth_25 ic_1 ?_
    refine r_iadd d_Di_findNth_26 ?_
    refine r_imul d_Di_findNth_27 ?_
    refine r_icmp_lt (tgt := 33) d_Di_findNth_28 (by decide) (fun hc_28 => ?_) (fun hc_28 => ?_)
    · replace H := H.1 hc_28
      refine r_aload_n (i := 0) d_Di_findNth_33 rfl rfl ?_
      refine r_aload_n (i := 0) d_Di_findNth_34 rfl rfl ?_
      refine r_iload_n (i := 1) d_Di_findNth_35 rfl rfl ?_
      refine rc_VI (b := 40) (d' := 2) [.int a1] [.ref 40] d_Di_findNth_36 ml_Di_65 rfl rfl (by decide) (by decide) rfl rfl (Nat.le_of_ble_eq_true rfl) H ?_
      intro r2 h1 H
      refine r_putI (b := 40) d_Di_findNth_39 fp_Di_68 ⟨rfl, rfl⟩ (by decide) rfl rfl ?_
      refine r_iload_n (i := 1) d_Di_findNth_42 rfl rfl ?_
      refine r_aload_n (i := 0) d_Di_findNth_43 rfl rfl ?_
      refine r_aload_n (i := 0) d_Di_findNth_44 rfl rfl ?_
      refine r_getI (b := 40) (v := r2) d_Di_findNth_45 fl_Di_68 (by decide) rfl rfl rfl ?_
      refine r_iconst d_Di_findNth_48 ic_1 ?_
      refine r_isub d_Di_findNth_49 ?_
      refine rc_VI (b := 40) (d' := 1) [.int (r2 - 1)] [.int a1] d_Di_findNth_50 ml_Di_71 rfl rfl (by decide) (by decide) rfl rfl (Nat.le_of_ble_eq_true rfl) H ?_
      intro r4 h3 H
      refine r_isub d_Di_findNth_53 ?_
      refine r_istore_n (i := 2) (lz := [some (.ref 40), some (.int a1), some (.int (a1 - r4)), none, none]) d_Di_findNth_54 rfl (by decide) rfl rfl ?_
      refine r_aload_n (i := 0) d_Di_findNth_55 rfl rfl ?_
      refine r_getI (b := 40) (v := h3.1 40 3) d_Di_findNth_56 fl_Di_32 (by decide) rfl rfl rfl ?_
      refine r_istore_n (i := 3) (lz := [some (.ref 40), some (.int a1), some (.int (a1 - r4)), some (.int (h3.1 40 3)), none]) d_Di_findNth_59 rfl (by decide) rfl rfl ?_
      exact rx_fgt [false, true] H
    · replace H := H.2 hc_28
      refine r_iconst d_Di_findNth_31 ic_0 ?_
      exact rZ_ret d_Di_findNth_32 rfl (Or.inl rfl) H
set_option maxHeartbeats 4000000 in
set_option maxRecDepth 20000 in
theorem w_Di_findNth_60 {G : rx_Gh} {hp : rx_Hp} {F : Int32 → rx_Hp → Prop} (x2 : Int32) (x3 : Int32) (H : ((hp.1 40 4) < x3 → F 0 hp) ∧ (¬ (hp.1 40 4) < x3 → Rn wC G 3 q_Di_findNth 74 [some (.ref 40), none, some (.int x2), some (.int x3), some (.int (hp.1 40 5))] [] hp (rI F))) : Rn wC G 3 q_Di_findNth 60 [some (.ref 40), none, some (.int x2), some (.int x3), none] [] hp (rI F) := by
  refine r_iload_n (i := 3) d_Di_findNth_60 rfl rfl ?_
  refine r_aload_n (i := 0) d_Di_findNth_61 rfl rfl ?_
  refine r_getI (b := 40) (v := hp.1 40 4) d_Di_findNth_62 fl_Di_37 (by decide) rfl rfl rfl ?_
  refine r_icmp_gt (tgt := 129) d_Di_findNth_65 (by decide) (fun hc_65 => ?_) (fun hc_65 => ?_)
  · replace H := H.1 hc_65
    refine r_iconst d_Di_findNth_129 ic_0 ?_
    exact rZ_ret d_Di_findNth_130 rfl (Or.inl rfl) H
  · replace H := H.2 hc_65
    refine r_aload_n (i := 0) d_Di_findNth_68 rfl rfl ?_
    refine r_getI (b := 40) (v := hp.1 40 5) d_Di_findNth_69 fl_Di_42 (by decide) rfl rfl rfl ?_
    refine r_istore (lz := [some (.ref 40), none, some (.int x2), some (.int x3), some (.int (hp.1 40 5))]) d_Di_findNth_72 (by decide) rfl rfl ?_
    exact H
set_option maxHeartbeats 4000000 in
set_option maxRecDepth 20000 in
theorem w_Di_findNth_74 {G : rx_Gh} {hp : rx_Hp} {F : Int32 → rx_Hp → Prop} (x2 : Int32) (x3 : Int32) (x4 : Int32) (H : ((hp.1 40 6) < x4 → Rn wC G 3 q_Di_findNth 60 [some (.ref 40), none, some (.int x2), some (.int (x3 + 1)), none] [] hp (rI F)) ∧ (¬ (hp.1 40 6) < x4 → p_Di_farAt x3 x4 ∧ (((f_Di_farAt x3 x4 hp) = (hp.1 40 9) → (x2 = 0 → F 1 (rx_pf (rx_pf hp 40 7 x3) 40 8 x4)) ∧ (¬ x2 = 0 → Rn wC G 3 q_Di_findNth 74 [some (.ref 40), none, some (.int (x2 + (-1))), some (.int x3), some (.int (x4 + 1))] [] hp (rI F))) ∧ (¬ (f_Di_farAt x3 x4 hp) = (hp.1 40 9) → Rn wC G 3 q_Di_findNth 74 [some (.ref 40), none, some (.int x2), some (.int x3), some (.int (x4 + 1))] [] hp (rI F))))) : Rn wC G 3 q_Di_findNth 74 [some (.ref 40), none, some (.int x2), some (.int x3), some (.int x4)] [] hp (rI F) := by
  refine r_iload d_Di_findNth_74 rfl ?_
  refine r_aload_n (i := 0) d_Di_findNth_76 rfl rfl ?_
  refine r_getI (b := 40) (v := hp.1 40 6) d_Di_findNth_77 fl_Di_47 (by decide) rfl rfl rfl ?_
  refine r_icmp_gt (tgt := 123) d_Di_findNth_80 (by decide) (fun hc_80 => ?_) (fun hc_80 => ?_)
  · replace H := H.1 hc_80
    refine r_iinc (v := x3 + 1) (lz := [some (.ref 40), none, some (.int x2), some (.int (x3 + 1)), some (.int x4)]) d_Di_findNth_123 rfl (by rw [ic_1]) (by decide) rfl rfl ?_
    refine r_goto (tgt := 60) d_Di_findNth_126 (by decide) ?_
    exact rx_fgt [false, false, false, false, true] H
  · replace H := H.2 hc_80
    refine r_aload_n (i := 0) d_Di_findNth_83 rfl rfl ?_
    refine r_iload_n (i := 3) d_Di_findNth_84 rfl rfl ?_
    refine r_iload d_Di_findNth_85 rfl ?_
    obtain ⟨hp_87_0, H⟩ := H
    refine rk_VI (b := 40) (d' := 1) [.int x3, .int x4] [] d_Di_findNth_87 ml_Di_74 rfl rfl (by decide) (by decide) rfl rfl (Nat.le_of_ble_eq_true rfl) (s_Di_farAt x3 x4 hp_87_0 ?_)
    refine r_aload_n (i := 0) d_Di_findNth_90 rfl rfl ?_
    refine r_getI (b := 40) (v := hp.1 40 9) d_Di_findNth_91 fl_Di_68 (by decide) rfl rfl rfl ?_
    refine r_icmp_ne (tgt := 117) d_Di_findNth_94 (by decide) (fun hc_94 => ?_) (fun hc_94 => ?_)
    · replace H := H.2 hc_94
      refine r_iinc (v := x4 + 1) (lz := [some (.ref 40), none, some (.int x2), some (.int x3), some (.int (x4 + 1))]) d_Di_findNth_117 rfl (by rw [ic_1]) (by decide) rfl rfl ?_
      refine r_goto (tgt := 74) d_Di_findNth_120 (by decide) ?_
      exact H
    · replace H := H.1 hc_94
      refine r_iload_n (i := 2) d_Di_findNth_97 rfl rfl ?_
      refine r_if_ne (tgt := 114) d_Di_findNth_98 (by decide) (fun hc_98 => ?_) (fun hc_98 => ?_)
      · replace H := H.2 hc_98
        refine r_iinc (v := x2 + (-1)) (lz := [some (.ref 40), none, some (.int (x2 + (-1))), some (.int x3), some (.int x4)]) d_Di_findNth_114 rfl (by rw [ic_m1]) (by decide) rfl rfl ?_
        refine r_iinc (v := x4 + 1) (lz := [some (.ref 40), none, some (.int (x2 + (-1))), some (.int x3), some (.int (x4 + 1))]) d_Di_findNth_117 rfl (by rw [ic_1]) (by decide) rfl rfl ?_
        refine r_goto (tgt := 74) d_Di_findNth_120 (by decide) ?_
        exact H
      · replace H := H.1 hc_98
        refine r_aload_n (i := 0) d_Di_findNth_101 rfl rfl ?_
        refine r_iload_n (i := 3) d_Di_findNth_102 rfl rfl ?_
        refine r_putI (b := 40) d_Di_findNth_103 fp_Di_78 ⟨rfl, rfl⟩ (by decide) rfl rfl ?_
        refine r_aload_n (i := 0) d_Di_findNth_106 rfl rfl ?_
        refine r_iload d_Di_findNth_107 rfl ?_
        refine r_putI (b := 40) d_Di_findNth_109 fp_Di_81 ⟨rfl, rfl⟩ (by decide) rfl rfl ?_
        refine r_iconst d_Di_findNth_112 ic_1 ?_
        exact rZ_ret d_Di_findNth_113 rfl (Or.inr rfl) H
set_option maxHeartbeats 4000000 in
set_option maxRecDepth 20000 in
theorem w_Di_farOfNth {G : rx_Gh} {hp : rx_Hp} {F : Int32 → rx_Hp → Prop} (a1 : Int32) (H : Rn wC G 2 q_Di_farOfNth 8 [some (.ref 40), some (.int a1), some (.int 0), some (.int 131072), some (.int 0), none] [] hp (rI F)) : Ev wC G 2 q_Di_farOfNth [.ref 40, .int a1] hp (rI F) := by
  refine ev_of rfl (Nat.le_of_ble_eq_true rfl) rfl ?_
  show Rn wC G 2 q_Di_farOfNth 0 [some (.ref 40), some (.int a1), none, none, none, none] [] hp (rI F)
  refine r_iconst d_Di_farOfNth_0 ic_0 ?_
  refine r_istore_n (i := 2) (lz := [some (.ref 40), some (.int a1), some (.int 0), none, none, none]) d_Di_farOfNth_1 rfl (by decide) rfl rfl ?_
  refine r_ldc d_Di_farOfNth_2 ck_Di_84 ?_
  refine r_istore_n (i := 3) (lz := [some (.ref 40), some (.int a1), some (.int 0), some (.int 131072), none, none]) d_Di_farOfNth_4 rfl (by decide) rfl rfl ?_
  refine r_iconst d_Di_farOfNth_5 ic_0 ?_
  refine r_istore (lz := [some (.ref 40), some (.int a1), some (.int 0), some (.int 131072), some (.int 0), none]) d_Di_farOfNth_6 (by decide) rfl rfl ?_
  exact H
set_option maxHeartbeats 4000000 in
set_option maxRecDepth 20000 in
theorem w_Di_farOfNth_8 {G : rx_Gh} {hp : rx_Hp} {F : Int32 → rx_Hp → Prop} (x1 : Int32) (x2 : Int32) (x3 : Int32) (x4 : Int32) (H : (32 ≤ x4 → F x2 hp) ∧ (¬ 32 ≤ x4 → (x3 ≤ x2 → F x2 hp) ∧ (¬ x3 ≤ x2 → Ev wC G 1 q_Di_upTo [.ref 40, .int ((x2 + x3) / 2)] hp (rI fun r2 h1 => Rn wC G 2 q_Di_farOfNth 8 [some (.ref 40), some (.int x1), some (.int ((if r2 ≤ x1 then (((x2 + x3) / 2) + 1) else x2) : Int32)), some (.int ((if r2 ≤ x1 then x3 else ((x2 + x3) / 2)) : Int32)), some (.int (x4 + 1)), none] [] h1 (rI F))))) : Rn wC G 2 q_Di_farOfNth 8 [some (.ref 40), some (.int x1), some (.int x2), some (.int x3), some (.int x4), none] [] hp (rI F) := by
  refine r_iload d_Di_farOfNth_8 rfl ?_
  refine r_bipush d_Di_farOfNth_10 bp_32 ?_
  refine r_icmp_ge (tgt := 54) d_Di_farOfNth_12 (by decide) (fun hc_12 => ?_) (fun hc_12 => ?_)
  · replace H := H.1 hc_12
    refine r_iload_n (i := 2) d_Di_farOfNth_54 rfl rfl ?_
    exact rI_ret d_Di_farOfNth_55 rfl H
  · replace H := H.2 hc_12
    refine r_iload_n (i := 2) d_Di_farOfNth_15 rfl rfl ?_
    refine r_iload_n (i := 3) d_Di_farOfNth_16 rfl rfl ?_
    refine r_icmp_ge (tgt := 54) d_Di_farOfNth_17 (by decide) (fun hc_17 => ?_) (fun hc_17 => ?_)
    · replace H := H.1 hc_17
      refine r_iload_n (i := 2) d_Di_farOfNth_54 rfl rfl ?_
      exact rI_ret d_Di_farOfNth_55 rfl H
    · replace H := H.2 hc_17
      refine r_iload_n (i := 2) d_Di_farOfNth_20 rfl rfl ?_
      refine r_iload_n (i := 3) d_Di_farOfNth_21 rfl rfl ?_
      refine r_iadd d_Di_farOfNth_22 ?_
      refine r_iconst d_Di_farOfNth_23 ic_2 ?_
      refine r_idiv d_Di_farOfNth_24 (by decide) ?_
      refine r_istore (lz := [some (.ref 40), some (.int x1), some (.int x2), some (.int x3), some (.int x4), some (.int ((x2 + x3) / 2))]) d_Di_farOfNth_25 (by decide) rfl rfl ?_
      refine r_aload_n (i := 0) d_Di_farOfNth_27 rfl rfl ?_
      refine r_iload d_Di_farOfNth_28 rfl ?_
      refine rc_VI (b := 40) (d' := 1) [.int ((x2 + x3) / 2)] [] d_Di_farOfNth_30 ml_Di_71 rfl rfl (by decide) (by decide) rfl rfl (Nat.le_of_ble_eq_true rfl) H ?_
      intro r2 h1 H
      have J34 : ∀ (v34_0 : Int32) (v34_1 : Int32), v34_0 = ((if r2 ≤ x1 then (((x2 + x3) / 2) + 1) else x2) : Int32) → v34_1 = ((if r2 ≤ x1 then x3 else ((x2 + x3) / 2)) : Int32) → Rn wC G 2 q_Di_farOfNth 48 [some (.ref 40), some (.int x1), some (.int v34_0), some (.int v34_1), some (.int x4), some (.int ((x2 + x3) / 2))] [] h1 (rI F) := by
        rintro _ _ rfl rfl
        refine r_iinc (v := x4 + 1) (lz := [some (.ref 40), some (.int x1), some (.int ((if r2 ≤ x1 then (((x2 + x3) / 2) + 1) else x2) : Int32)), some (.int ((if r2 ≤ x1 then x3 else ((x2 + x3) / 2)) : Int32)), some (.int (x4 + 1)), some (.int ((x2 + x3) / 2))]) d_Di_farOfNth_48 rfl (by rw [ic_1]) (by decide) rfl rfl ?_
        refine r_goto (tgt := 8) d_Di_farOfNth_51 (by decide) ?_
        exact rx_fgt [false, false, false, false, false, true] H
      refine r_iload_n (i := 1) d_Di_farOfNth_33 rfl rfl ?_
      refine r_icmp_le (tgt := 43) d_Di_farOfNth_34 (by decide) (fun hc_34 => ?_) (fun hc_34 => ?_)
      · refine r_iload d_Di_farOfNth_43 rfl ?_
        refine r_iconst d_Di_farOfNth_45 ic_1 ?_
        refine r_iadd d_Di_farOfNth_46 ?_
        refine r_istore_n (i := 2) (lz := [some (.ref 40), some (.int x1), some (.int (((x2 + x3) / 2) + 1)), some (.int x3), some (.int x4), some (.int ((x2 + x3) / 2))]) d_Di_farOfNth_47 rfl (by decide) rfl rfl ?_
        exact J34 _ _ (((if_pos hc_34).trans rfl)).symm (((if_pos hc_34).trans rfl)).symm
      · refine r_iload d_Di_farOfNth_37 rfl ?_
        refine r_istore_n (i := 3) (lz := [some (.ref 40), some (.int x1), some (.int x2), some (.int ((x2 + x3) / 2)), some (.int x4), some (.int ((x2 + x3) / 2))]) d_Di_farOfNth_39 rfl (by decide) rfl rfl ?_
        refine r_goto (tgt := 48) d_Di_farOfNth_40 (by decide) ?_
        exact J34 _ _ (((if_neg hc_34).trans rfl)).symm (((if_neg hc_34).trans rfl)).symm
set_option maxHeartbeats 4000000 in
set_option maxRecDepth 20000 in
theorem w_GR_near {G : rx_Gh} {hp : rx_Hp} {F : Int32 → rx_Hp → Prop} (a1 : Int32) (a2 : Int32) (a3 : Int32) (a4 : Int32) (H : ((f_Ha_has a1 hp) = 0 → F (-100000000) hp) ∧ (¬ (f_Ha_has a1 hp) = 0 → ((f_Ha_has a2 hp) = 0 → F (-100000000) hp) ∧ (¬ (f_Ha_has a2 hp) = 0 → (a4 < 0 → F (-100000000) hp) ∧ (¬ a4 < 0 → (a4 ≤ 2 → Ev wC G 3 q_Di_measure [.ref 40, .int a1, .int a2] hp (rV fun h1 => Ev wC G 3 q_Di_findNth [.ref 40, .int a3] h1 (rI fun r3 h2 => (r3 = 0 → F (-100000000) h2) ∧ (¬ r3 = 0 → (a4 = 0 → F (h2.1 40 7) h2) ∧ (¬ a4 = 0 → F ((if a4 = 1 then (h2.1 40 8) else (h2.1 40 9)) : Int32) h2))))) ∧ (¬ a4 ≤ 2 → F (-100000000) hp))))) : Ev wC G 4 q_GR_near [.ref 0, .int a1, .int a2, .int a3, .int a4] hp (rI F) := by
  refine ev_of rfl (Nat.le_of_ble_eq_true rfl) rfl ?_
  show Rn wC G 4 q_GR_near 0 [some (.ref 0), some (.int a1), some (.int a2), some (.int a3), some (.int a4)] [] hp (rI F)
  refine r_aload_n (i := 0) d_GR_near_0 rfl rfl ?_
  refine r_getR (b := 0) (r := 3) d_GR_near_1 fl_GR_19 (by decide) rfl rfl rfl ?_
  refine r_iload_n (i := 1) d_GR_near_4 rfl rfl ?_
  refine rk_VI (b := 3) (d' := 1) [.int a1] [] d_GR_near_5 ml_GR_144 rfl rfl (by decide) (by decide) rfl rfl (Nat.le_of_ble_eq_true rfl) (s_Ha_has a1 ?_)
  refine r_if_eq (tgt := 33) d_GR_near_8 (by decide) (fun hc_8 => ?_) (fun hc_8 => ?_)
  · replace H := H.1 hc_8
    refine r_ldc d_GR_near_33 ck_GR_196 ?_
    exact rI_ret d_GR_near_35 rfl H
  · replace H := H.2 hc_8
    refine r_aload_n (i := 0) d_GR_near_11 rfl rfl ?_
    refine r_getR (b := 0) (r := 3) d_GR_near_12 fl_GR_19 (by decide) rfl rfl rfl ?_
    refine r_iload_n (i := 2) d_GR_near_15 rfl rfl ?_
    refine rk_VI (b := 3) (d' := 1) [.int a2] [] d_GR_near_16 ml_GR_144 rfl rfl (by decide) (by decide) rfl rfl (Nat.le_of_ble_eq_true rfl) (s_Ha_has a2 ?_)
    refine r_if_eq (tgt := 33) d_GR_near_19 (by decide) (fun hc_19 => ?_) (fun hc_19 => ?_)
    · replace H := H.1 hc_19
      refine r_ldc d_GR_near_33 ck_GR_196 ?_
      exact rI_ret d_GR_near_35 rfl H
    · replace H := H.2 hc_19
      refine r_iload d_GR_near_22 rfl ?_
      refine r_if_lt (tgt := 33) d_GR_near_24 (by decide) (fun hc_24 => ?_) (fun hc_24 => ?_)
      · replace H := H.1 hc_24
        refine r_ldc d_GR_near_33 ck_GR_196 ?_
        exact rI_ret d_GR_near_35 rfl H
      · replace H := H.2 hc_24
        refine r_iload d_GR_near_27 rfl ?_
        refine r_iconst d_GR_near_29 ic_2 ?_
        refine r_icmp_le (tgt := 36) d_GR_near_30 (by decide) (fun hc_30 => ?_) (fun hc_30 => ?_)
        · replace H := H.1 hc_30
          refine r_aload_n (i := 0) d_GR_near_36 rfl rfl ?_
          refine r_getR (b := 0) (r := 40) d_GR_near_37 fl_GR_68 (by decide) rfl rfl rfl ?_
          refine r_iload_n (i := 1) d_GR_near_40 rfl rfl ?_
          refine r_iload_n (i := 2) d_GR_near_41 rfl rfl ?_
          refine rc_VV (b := 40) (d' := 3) [.int a1, .int a2] [] d_GR_near_42 ml_GR_227 rfl rfl (by decide) (by decide) rfl rfl (Nat.le_of_ble_eq_true rfl) H ?_
          intro h1 H
          refine r_aload_n (i := 0) d_GR_near_45 rfl rfl ?_
          refine r_getR (b := 0) (r := 40) d_GR_near_46 fl_GR_68 (by decide) rfl rfl rfl ?_
          refine r_iload_n (i := 3) d_GR_near_49 rfl rfl ?_
          refine rc_VI (b := 40) (d' := 3) [.int a3] [] d_GR_near_50 ml_GR_230 rfl rfl (by decide) (by decide) rfl rfl (Nat.le_of_ble_eq_true rfl) H ?_
          intro r3 h2 H
          refine r_if_ne (tgt := 59) d_GR_near_53 (by decide) (fun hc_53 => ?_) (fun hc_53 => ?_)
          · replace H := H.2 hc_53
            refine r_iload d_GR_near_59 rfl ?_
            refine r_if_ne (tgt := 72) d_GR_near_61 (by decide) (fun hc_61 => ?_) (fun hc_61 => ?_)
            · replace H := H.2 hc_61
              have J75 : ∀ (v75_0 : Int32), v75_0 = ((if a4 = 1 then (h2.1 40 8) else (h2.1 40 9)) : Int32) → Rn wC G 4 q_GR_near 95 [some (.ref 0), some (.int a1), some (.int a2), some (.int a3), some (.int a4)] [.int v75_0] h2 (rI F) := by
                rintro _ rfl
                exact rI_ret d_GR_near_95 rfl H
              refine r_iload d_GR_near_72 rfl ?_
              refine r_iconst d_GR_near_74 ic_1 ?_
              refine r_icmp_ne (tgt := 88) d_GR_near_75 (by decide) (fun hc_75 => ?_) (fun hc_75 => ?_)
              · refine r_aload_n (i := 0) d_GR_near_88 rfl rfl ?_
                refine r_getR (b := 0) (r := 40) d_GR_near_89 fl_GR_68 (by decide) rfl rfl rfl ?_
                refine r_getI (b := 40) (v := h2.1 40 9) d_GR_near_92 fl_GR_239 (by decide) rfl rfl rfl ?_
                exact J75 _ (((if_neg hc_75).trans rfl)).symm
              · refine r_aload_n (i := 0) d_GR_near_78 rfl rfl ?_
                refine r_getR (b := 0) (r := 40) d_GR_near_79 fl_GR_68 (by decide) rfl rfl rfl ?_
                refine r_getI (b := 40) (v := h2.1 40 8) d_GR_near_82 fl_GR_236 (by decide) rfl rfl rfl ?_
                refine r_goto (tgt := 95) d_GR_near_85 (by decide) ?_
                exact J75 _ (((if_pos hc_75).trans rfl)).symm
            · replace H := H.1 hc_61
              refine r_aload_n (i := 0) d_GR_near_64 rfl rfl ?_
              refine r_getR (b := 0) (r := 40) d_GR_near_65 fl_GR_68 (by decide) rfl rfl rfl ?_
              refine r_getI (b := 40) (v := h2.1 40 7) d_GR_near_68 fl_GR_233 (by decide) rfl rfl rfl ?_
              exact rI_ret d_GR_near_71 rfl H
          · replace H := H.1 hc_53
            refine r_ldc d_GR_near_56 ck_GR_196 ?_
            exact rI_ret d_GR_near_58 rfl H
        · replace H := H.2 hc_30
          refine r_ldc d_GR_near_33 ck_GR_196 ?_
          exact rI_ret d_GR_near_35 rfl H
set_option maxHeartbeats 4000000 in
set_option maxRecDepth 20000 in
theorem w_GR_within {G : rx_Gh} {hp : rx_Hp} {F : Int32 → rx_Hp → Prop} (a1 : Int32) (a2 : Int32) (a3 : Int32) (H : ((f_Ha_has a1 hp) = 0 → F (-1) hp) ∧ (¬ (f_Ha_has a1 hp) = 0 → ((f_Ha_has a2 hp) = 0 → F (-1) hp) ∧ (¬ (f_Ha_has a2 hp) = 0 → (a3 < 0 → F (-1) hp) ∧ (¬ a3 < 0 → (a3 ≤ 99 → Ev wC G 3 q_Di_measure [.ref 40, .int a1, .int a2] hp (rV fun h1 => Ev wC G 1 q_Di_upTo [.ref 40, .int (a3 * a3)] h1 (rI fun r3 h2 => F r3 h2))) ∧ (¬ a3 ≤ 99 → F (-1) hp))))) : Ev wC G 4 q_GR_within [.ref 0, .int a1, .int a2, .int a3] hp (rI F) := by
  refine ev_of rfl (Nat.le_of_ble_eq_true rfl) rfl ?_
  show Rn wC G 4 q_GR_within 0 [some (.ref 0), some (.int a1), some (.int a2), some (.int a3)] [] hp (rI F)
  refine r_aload_n (i := 0) d_GR_within_0 rfl rfl ?_
  refine r_getR (b := 0) (r := 3) d_GR_within_1 fl_GR_19 (by decide) rfl rfl rfl ?_
  refine r_iload_n (i := 1) d_GR_within_4 rfl rfl ?_
  refine rk_VI (b := 3) (d' := 1) [.int a1] [] d_GR_within_5 ml_GR_144 rfl rfl (by decide) (by decide) rfl rfl (Nat.le_of_ble_eq_true rfl) (s_Ha_has a1 ?_)
  refine r_if_eq (tgt := 32) d_GR_within_8 (by decide) (fun hc_8 => ?_) (fun hc_8 => ?_)
  · replace H := H.1 hc_8
    refine r_iconst d_GR_within_32 ic_m1 ?_
    exact rI_ret d_GR_within_33 rfl H
  · replace H := H.2 hc_8
    refine r_aload_n (i := 0) d_GR_within_11 rfl rfl ?_
    refine r_getR (b := 0) (r := 3) d_GR_within_12 fl_GR_19 (by decide) rfl rfl rfl ?_
    refine r_iload_n (i := 2) d_GR_within_15 rfl rfl ?_
    refine rk_VI (b := 3) (d' := 1) [.int a2] [] d_GR_within_16 ml_GR_144 rfl rfl (by decide) (by decide) rfl rfl (Nat.le_of_ble_eq_true rfl) (s_Ha_has a2 ?_)
    refine r_if_eq (tgt := 32) d_GR_within_19 (by decide) (fun hc_19 => ?_) (fun hc_19 => ?_)
    · replace H := H.1 hc_19
      refine r_iconst d_GR_within_32 ic_m1 ?_
      exact rI_ret d_GR_within_33 rfl H
    · replace H := H.2 hc_19
      refine r_iload_n (i := 3) d_GR_within_22 rfl rfl ?_
      refine r_if_lt (tgt := 32) d_GR_within_23 (by decide) (fun hc_23 => ?_) (fun hc_23 => ?_)
      · replace H := H.1 hc_23
        refine r_iconst d_GR_within_32 ic_m1 ?_
        exact rI_ret d_GR_within_33 rfl H
      · replace H := H.2 hc_23
        refine r_iload_n (i := 3) d_GR_within_26 rfl rfl ?_
        refine r_bipush d_GR_within_27 bp_99 ?_
        refine r_icmp_le (tgt := 34) d_GR_within_29 (by decide) (fun hc_29 => ?_) (fun hc_29 => ?_)
        · replace H := H.1 hc_29
          refine r_aload_n (i := 0) d_GR_within_34 rfl rfl ?_
          refine r_getR (b := 0) (r := 40) d_GR_within_35 fl_GR_68 (by decide) rfl rfl rfl ?_
          refine r_iload_n (i := 1) d_GR_within_38 rfl rfl ?_
          refine r_iload_n (i := 2) d_GR_within_39 rfl rfl ?_
          refine rc_VV (b := 40) (d' := 3) [.int a1, .int a2] [] d_GR_within_40 ml_GR_227 rfl rfl (by decide) (by decide) rfl rfl (Nat.le_of_ble_eq_true rfl) H ?_
          intro h1 H
          refine r_aload_n (i := 0) d_GR_within_43 rfl rfl ?_
          refine r_getR (b := 0) (r := 40) d_GR_within_44 fl_GR_68 (by decide) rfl rfl rfl ?_
          refine r_iload_n (i := 3) d_GR_within_47 rfl rfl ?_
          refine r_iload_n (i := 3) d_GR_within_48 rfl rfl ?_
          refine r_imul d_GR_within_49 ?_
          refine rc_VI (b := 40) (d' := 1) [.int (a3 * a3)] [] d_GR_within_50 ml_GR_242 rfl rfl (by decide) (by decide) rfl rfl (Nat.le_of_ble_eq_true rfl) H ?_
          intro r3 h2 H
          exact rI_ret d_GR_within_53 rfl H
        · replace H := H.2 hc_29
          refine r_iconst d_GR_within_32 ic_m1 ?_
          exact rI_ret d_GR_within_33 rfl H
set_option maxHeartbeats 4000000 in
set_option maxRecDepth 20000 in
theorem w_M_near {G : rx_Gh} {hp : rx_Hp} {F : Int32 → rx_Hp → Prop} (a1 : Int32) (a2 : Int32) (a3 : Int32) (a4 : Int32) (H : ((f_M_isBody a1 hp) = 0 → F (-100000000) hp) ∧ (¬ (f_M_isBody a1 hp) = 0 → ((f_M_isBody a2 hp) = 0 → F (-100000000) hp) ∧ (¬ (f_M_isBody a2 hp) = 0 → (a3 < 0 → F (-100000000) hp) ∧ (¬ a3 < 0 → ((f_M_in a4 0 2) = 0 → F (-100000000) hp) ∧ (¬ (f_M_in a4 0 2) = 0 → Ev wM G 4 q_M_layNear [.ref 0, .int a1, .int a2] hp (rV fun h1 => (a3 < (h1.1 0 34) → (a4 = 0 → vp_in a3 441 ∧ (F (h1.2.1 17 a3.toNatClampNeg) h1)) ∧ (¬ a4 = 0 → (a4 = 1 → vp_in a3 441 ∧ (F (h1.2.1 18 a3.toNatClampNeg) h1)) ∧ (¬ a4 = 1 → vp_in a3 441 ∧ (F (h1.2.1 19 a3.toNatClampNeg) h1)))) ∧ (¬ a3 < (h1.1 0 34) → F (-100000000) h1))))))) : Ev wM G 5 q_M_near [.ref 0, .int a1, .int a2, .int a3, .int a4] hp (rI F) := by
  refine ev_of rfl (Nat.le_of_ble_eq_true rfl) rfl ?_
  show Rn wM G 5 q_M_near 0 [some (.ref 0), some (.int a1), some (.int a2), some (.int a3), some (.int a4)] [] hp (rI F)
  refine r_aload_n (i := 0) d_M_near_0 rfl rfl ?_
  refine r_iload_n (i := 1) d_M_near_1 rfl rfl ?_
  refine rk_VI (b := 0) (d' := 2) [.int a1] [] d_M_near_2 ml_M_267 rfl rfl (by decide) (by decide) rfl rfl (Nat.le_of_ble_eq_true rfl) (s_M_isBody a1 ?_)
  refine r_if_eq (tgt := 30) d_M_near_5 (by decide) (fun hc_5 => ?_) (fun hc_5 => ?_)
  · replace H := H.1 hc_5
    refine r_ldcw d_M_near_30 ck_M_308 ?_
    exact rI_ret d_M_near_33 rfl H
  · replace H := H.2 hc_5
    refine r_aload_n (i := 0) d_M_near_8 rfl rfl ?_
    refine r_iload_n (i := 2) d_M_near_9 rfl rfl ?_
    refine rk_VI (b := 0) (d' := 2) [.int a2] [] d_M_near_10 ml_M_267 rfl rfl (by decide) (by decide) rfl rfl (Nat.le_of_ble_eq_true rfl) (s_M_isBody a2 ?_)
    refine r_if_eq (tgt := 30) d_M_near_13 (by decide) (fun hc_13 => ?_) (fun hc_13 => ?_)
    · replace H := H.1 hc_13
      refine r_ldcw d_M_near_30 ck_M_308 ?_
      exact rI_ret d_M_near_33 rfl H
    · replace H := H.2 hc_13
      refine r_iload_n (i := 3) d_M_near_16 rfl rfl ?_
      refine r_if_lt (tgt := 30) d_M_near_17 (by decide) (fun hc_17 => ?_) (fun hc_17 => ?_)
      · replace H := H.1 hc_17
        refine r_ldcw d_M_near_30 ck_M_308 ?_
        exact rI_ret d_M_near_33 rfl H
      · replace H := H.2 hc_17
        refine r_iload d_M_near_20 rfl ?_
        refine r_iconst d_M_near_22 ic_0 ?_
        refine r_iconst d_M_near_23 ic_2 ?_
        refine rk_SI (d' := 1) [.int a4, .int 0, .int 2] [] d_M_near_24 ml_M_198 rfl rfl (by decide) (Nat.le_of_ble_eq_true rfl) (s_M_in a4 0 2 ?_)
        refine r_if_ne (tgt := 34) d_M_near_27 (by decide) (fun hc_27 => ?_) (fun hc_27 => ?_)
        · replace H := H.2 hc_27
          refine r_aload_n (i := 0) d_M_near_34 rfl rfl ?_
          refine r_iload_n (i := 1) d_M_near_35 rfl rfl ?_
          refine r_iload_n (i := 2) d_M_near_36 rfl rfl ?_
          refine rc_VV (b := 0) (d' := 4) [.int a1, .int a2] [] d_M_near_37 ml_M_331 rfl rfl (by decide) (by decide) rfl rfl (Nat.le_of_ble_eq_true rfl) H ?_
          intro h1 H
          refine r_iload_n (i := 3) d_M_near_40 rfl rfl ?_
          refine r_aload_n (i := 0) d_M_near_41 rfl rfl ?_
          refine r_getI (b := 0) (v := h1.1 0 34) d_M_near_42 fl_M_328 (by decide) rfl rfl rfl ?_
          refine r_icmp_lt (tgt := 54) d_M_near_45 (by decide) (fun hc_45 => ?_) (fun hc_45 => ?_)
          · replace H := H.1 hc_45
            refine r_iload d_M_near_54 rfl ?_
            refine r_if_ne (tgt := 68) d_M_near_56 (by decide) (fun hc_56 => ?_) (fun hc_56 => ?_)
            · replace H := H.2 hc_56
              refine r_iload d_M_near_68 rfl ?_
              refine r_iconst d_M_near_70 ic_1 ?_
              refine r_icmp_ne (tgt := 83) d_M_near_71 (by decide) (fun hc_71 => ?_) (fun hc_71 => ?_)
              · replace H := H.2 hc_71
                refine r_aload_n (i := 0) d_M_near_83 rfl rfl ?_
                refine r_getR (b := 0) (r := 19) d_M_near_84 fl_M_68 (by decide) rfl rfl rfl ?_
                refine r_iload_n (i := 3) d_M_near_87 rfl rfl ?_
                obtain ⟨hi_88, H⟩ := H
                refine r_iald (b := 19) (v := h1.2.1 19 a3.toNatClampNeg) d_M_near_88 (by decide) rfl hi_88 rfl ?_
                exact rI_ret d_M_near_89 rfl H
              · replace H := H.1 hc_71
                refine r_aload_n (i := 0) d_M_near_74 rfl rfl ?_
                refine r_getR (b := 0) (r := 18) d_M_near_75 fl_M_65 (by decide) rfl rfl rfl ?_
                refine r_iload_n (i := 3) d_M_near_78 rfl rfl ?_
                obtain ⟨hi_79, H⟩ := H
                refine r_iald (b := 18) (v := h1.2.1 18 a3.toNatClampNeg) d_M_near_79 (by decide) rfl hi_79 rfl ?_
                refine r_goto (tgt := 89) d_M_near_80 (by decide) ?_
                exact rI_ret d_M_near_89 rfl H
            · replace H := H.1 hc_56
              refine r_aload_n (i := 0) d_M_near_59 rfl rfl ?_
              refine r_getR (b := 0) (r := 17) d_M_near_60 fl_M_62 (by decide) rfl rfl rfl ?_
              refine r_iload_n (i := 3) d_M_near_63 rfl rfl ?_
              obtain ⟨hi_64, H⟩ := H
              refine r_iald (b := 17) (v := h1.2.1 17 a3.toNatClampNeg) d_M_near_64 (by decide) rfl hi_64 rfl ?_
              refine r_goto (tgt := 89) d_M_near_65 (by decide) ?_
              exact rI_ret d_M_near_89 rfl H
          · replace H := H.2 hc_45
            refine r_ldcw d_M_near_48 ck_M_308 ?_
            refine r_goto (tgt := 89) d_M_near_51 (by decide) ?_
            exact rI_ret d_M_near_89 rfl H
        · replace H := H.1 hc_27
          refine r_ldcw d_M_near_30 ck_M_308 ?_
          exact rI_ret d_M_near_33 rfl H
set_option maxHeartbeats 4000000 in
set_option maxRecDepth 20000 in
theorem w_M_within {G : rx_Gh} {hp : rx_Hp} {F : Int32 → rx_Hp → Prop} (a1 : Int32) (a2 : Int32) (a3 : Int32) (H : ((f_M_isBody a1 hp) = 0 → F (-1) hp) ∧ (¬ (f_M_isBody a1 hp) = 0 → ((f_M_isBody a2 hp) = 0 → F (-1) hp) ∧ (¬ (f_M_isBody a2 hp) = 0 → ((f_M_in a3 0 99) = 0 → F (-1) hp) ∧ (¬ (f_M_in a3 0 99) = 0 → Ev wM G 4 q_M_layNear [.ref 0, .int a1, .int a2] hp (rV fun h1 => Rn wM G 5 q_M_within 37 [some (.ref 0), none, none, some (.int a3), some (.int 0)] [] h1 (rI F)))))) : Ev wM G 5 q_M_within [.ref 0, .int a1, .int a2, .int a3] hp (rI F) := by
  refine ev_of rfl (Nat.le_of_ble_eq_true rfl) rfl ?_
  show Rn wM G 5 q_M_within 0 [some (.ref 0), some (.int a1), some (.int a2), some (.int a3), none] [] hp (rI F)
  refine r_aload_n (i := 0) d_M_within_0 rfl rfl ?_
  refine r_iload_n (i := 1) d_M_within_1 rfl rfl ?_
  refine rk_VI (b := 0) (d' := 2) [.int a1] [] d_M_within_2 ml_M_267 rfl rfl (by decide) (by decide) rfl rfl (Nat.le_of_ble_eq_true rfl) (s_M_isBody a1 ?_)
  refine r_if_eq (tgt := 26) d_M_within_5 (by decide) (fun hc_5 => ?_) (fun hc_5 => ?_)
  · replace H := H.1 hc_5
    refine r_iconst d_M_within_26 ic_m1 ?_
    exact rI_ret d_M_within_27 rfl H
  · replace H := H.2 hc_5
    refine r_aload_n (i := 0) d_M_within_8 rfl rfl ?_
    refine r_iload_n (i := 2) d_M_within_9 rfl rfl ?_
    refine rk_VI (b := 0) (d' := 2) [.int a2] [] d_M_within_10 ml_M_267 rfl rfl (by decide) (by decide) rfl rfl (Nat.le_of_ble_eq_true rfl) (s_M_isBody a2 ?_)
    refine r_if_eq (tgt := 26) d_M_within_13 (by decide) (fun hc_13 => ?_) (fun hc_13 => ?_)
    · replace H := H.1 hc_13
      refine r_iconst d_M_within_26 ic_m1 ?_
      exact rI_ret d_M_within_27 rfl H
    · replace H := H.2 hc_13
      refine r_iload_n (i := 3) d_M_within_16 rfl rfl ?_
      refine r_iconst d_M_within_17 ic_0 ?_
      refine r_bipush d_M_within_18 bp_99 ?_
      refine rk_SI (d' := 1) [.int a3, .int 0, .int 99] [] d_M_within_20 ml_M_198 rfl rfl (by decide) (Nat.le_of_ble_eq_true rfl) (s_M_in a3 0 99 ?_)
      refine r_if_ne (tgt := 28) d_M_within_23 (by decide) (fun hc_23 => ?_) (fun hc_23 => ?_)
      · replace H := H.2 hc_23
        refine r_aload_n (i := 0) d_M_within_28 rfl rfl ?_
        refine r_iload_n (i := 1) d_M_within_29 rfl rfl ?_
        refine r_iload_n (i := 2) d_M_within_30 rfl rfl ?_
        refine rc_VV (b := 0) (d' := 4) [.int a1, .int a2] [] d_M_within_31 ml_M_331 rfl rfl (by decide) (by decide) rfl rfl (Nat.le_of_ble_eq_true rfl) H ?_
        intro h1 H
        refine r_iconst d_M_within_34 ic_0 ?_
        refine r_istore (lz := [some (.ref 0), some (.int a1), some (.int a2), some (.int a3), some (.int 0)]) d_M_within_35 (by decide) rfl rfl ?_
        exact rx_fgt [false, true, true] H
      · replace H := H.1 hc_23
        refine r_iconst d_M_within_26 ic_m1 ?_
        exact rI_ret d_M_within_27 rfl H
set_option maxHeartbeats 4000000 in
set_option maxRecDepth 20000 in
theorem w_M_within_37 {G : rx_Gh} {hp : rx_Hp} {F : Int32 → rx_Hp → Prop} (x3 : Int32) (x4 : Int32) (H : ((hp.1 0 34) ≤ x4 → F x4 hp) ∧ (¬ (hp.1 0 34) ≤ x4 → vp_in x4 441 ∧ (((x3 * x3) < (hp.2.1 19 x4.toNatClampNeg) → F x4 hp) ∧ (¬ (x3 * x3) < (hp.2.1 19 x4.toNatClampNeg) → Rn wM G 5 q_M_within 37 [some (.ref 0), none, none, some (.int x3), some (.int (x4 + 1))] [] hp (rI F))))) : Rn wM G 5 q_M_within 37 [some (.ref 0), none, none, some (.int x3), some (.int x4)] [] hp (rI F) := by
  refine r_iload d_M_within_37 rfl ?_
  refine r_aload_n (i := 0) d_M_within_39 rfl rfl ?_
  refine r_getI (b := 0) (v := hp.1 0 34) d_M_within_40 fl_M_328 (by decide) rfl rfl rfl ?_
  refine r_icmp_ge (tgt := 65) d_M_within_43 (by decide) (fun hc_43 => ?_) (fun hc_43 => ?_)
  · replace H := H.1 hc_43
    refine r_iload d_M_within_65 rfl ?_
    exact rI_ret d_M_within_67 rfl H
  · replace H := H.2 hc_43
    refine r_aload_n (i := 0) d_M_within_46 rfl rfl ?_
    refine r_getR (b := 0) (r := 19) d_M_within_47 fl_M_68 (by decide) rfl rfl rfl ?_
    refine r_iload d_M_within_50 rfl ?_
    obtain ⟨hi_52, H⟩ := H
    refine r_iald (b := 19) (v := hp.2.1 19 x4.toNatClampNeg) d_M_within_52 (by decide) rfl hi_52 rfl ?_
    refine r_iload_n (i := 3) d_M_within_53 rfl rfl ?_
    refine r_iload_n (i := 3) d_M_within_54 rfl rfl ?_
    refine r_imul d_M_within_55 ?_
    refine r_icmp_gt (tgt := 65) d_M_within_56 (by decide) (fun hc_56 => ?_) (fun hc_56 => ?_)
    · replace H := H.1 hc_56
      refine r_iload d_M_within_65 rfl ?_
      exact rI_ret d_M_within_67 rfl H
    · replace H := H.2 hc_56
      refine r_iinc (v := x4 + 1) (lz := [some (.ref 0), none, none, some (.int x3), some (.int (x4 + 1))]) d_M_within_59 rfl (by rw [ic_1]) (by decide) rfl rfl ?_
      refine r_goto (tgt := 37) d_M_within_62 (by decide) ?_
      exact H

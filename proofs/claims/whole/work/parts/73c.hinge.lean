theorem d_GR_angles_0 : decode q_GR_angles.2.1 0 = .ok (.iconst 0, 1) := by decide +kernel
theorem d_GR_angles_1 : decode q_GR_angles.2.1 1 = .ok (.istore_n 3, 1) := by decide +kernel
theorem d_GR_angles_2 : decode q_GR_angles.2.1 2 = .ok (.iconst 1, 1) := by decide +kernel
theorem d_GR_angles_3 : decode q_GR_angles.2.1 3 = .ok (.istore 4, 2) := by decide +kernel
theorem d_GR_angles_5 : decode q_GR_angles.2.1 5 = .ok (.iload 4, 2) := by decide +kernel
theorem d_GR_angles_7 : decode q_GR_angles.2.1 7 = .ok (.sipush 180, 3) := by decide +kernel
theorem d_GR_angles_10 : decode q_GR_angles.2.1 10 = .ok (.if_icmp .gt 29, 3) := by decide +kernel
theorem d_GR_angles_39 : decode q_GR_angles.2.1 39 = .ok (.iload_n 2, 1) := by decide +kernel
theorem d_GR_angles_40 : decode q_GR_angles.2.1 40 = .ok (.iconst (-1), 1) := by decide +kernel
theorem d_GR_angles_41 : decode q_GR_angles.2.1 41 = .ok (.if_icmp .ne 7, 3) := by decide +kernel
theorem d_GR_angles_44 : decode q_GR_angles.2.1 44 = .ok (.iload_n 3, 1) := by decide +kernel
theorem d_GR_angles_45 : decode q_GR_angles.2.1 45 = .ok (.goto 4, 3) := by decide +kernel
theorem d_GR_angles_48 : decode q_GR_angles.2.1 48 = .ok (.iconst (-1), 1) := by decide +kernel
theorem d_GR_angles_49 : decode q_GR_angles.2.1 49 = .ok (.ireturn, 1) := by decide +kernel
theorem d_GR_angles_13 : decode q_GR_angles.2.1 13 = .ok (.iload 4, 2) := by decide +kernel
theorem d_GR_angles_15 : decode q_GR_angles.2.1 15 = .ok (.iload_n 1, 1) := by decide +kernel
theorem d_GR_angles_16 : decode q_GR_angles.2.1 16 = .ok (.invokestatic 320, 3) := by decide +kernel
theorem ml_GR_320 : rx_CS "GlassRoom" 320 q_GR_showsSomewhere 2 := ⟨⟨(rx_s4 206 rfl rfl), (rx_s4 207 rfl rfl)⟩, ⟨(rx_s1 1 rfl rfl), q_GR_showsSomewhere_k, ⟨by decide, by decide, by decide +kernel⟩, by decide⟩⟩
theorem d_GR_angles_19 : decode q_GR_angles.2.1 19 = .ok (.ifCond .eq 14, 3) := by decide +kernel
theorem d_GR_angles_33 : decode q_GR_angles.2.1 33 = .ok (.iinc 4 1, 3) := by decide +kernel
theorem d_GR_angles_36 : decode q_GR_angles.2.1 36 = .ok (.goto (-31), 3) := by decide +kernel
theorem d_GR_angles_22 : decode q_GR_angles.2.1 22 = .ok (.iload_n 3, 1) := by decide +kernel
theorem d_GR_angles_23 : decode q_GR_angles.2.1 23 = .ok (.iload_n 2, 1) := by decide +kernel
theorem d_GR_angles_24 : decode q_GR_angles.2.1 24 = .ok (.if_icmp .ne 6, 3) := by decide +kernel
theorem d_GR_angles_27 : decode q_GR_angles.2.1 27 = .ok (.iload 4, 2) := by decide +kernel
theorem d_GR_angles_29 : decode q_GR_angles.2.1 29 = .ok (.ireturn, 1) := by decide +kernel
theorem d_GR_angles_30 : decode q_GR_angles.2.1 30 = .ok (.iinc 3 1, 3) := by decide +kernel
theorem d_M_layHinge_0 : decode q_M_layHinge.2.1 0 = .ok (.iconst 0, 1) := by decide +kernel
theorem d_M_layHinge_1 : decode q_M_layHinge.2.1 1 = .ok (.istore_n 3, 1) := by decide +kernel
theorem d_M_layHinge_2 : decode q_M_layHinge.2.1 2 = .ok (.iload_n 3, 1) := by decide +kernel
theorem d_M_layHinge_3 : decode q_M_layHinge.2.1 3 = .ok (.sipush 360, 3) := by decide +kernel
theorem d_M_layHinge_6 : decode q_M_layHinge.2.1 6 = .ok (.if_icmp .ge 16, 3) := by decide +kernel
theorem d_M_layHinge_9 : decode q_M_layHinge.2.1 9 = .ok (.aload_n 0, 1) := by decide +kernel
theorem d_M_layHinge_10 : decode q_M_layHinge.2.1 10 = .ok (.getfield 71, 3) := by decide +kernel
theorem d_M_layHinge_13 : decode q_M_layHinge.2.1 13 = .ok (.iload_n 3, 1) := by decide +kernel
theorem d_M_layHinge_14 : decode q_M_layHinge.2.1 14 = .ok (.iconst (-1), 1) := by decide +kernel
theorem d_M_layHinge_22 : decode q_M_layHinge.2.1 22 = .ok (.aload_n 0, 1) := by decide +kernel
theorem d_M_layHinge_23 : decode q_M_layHinge.2.1 23 = .ok (.iload_n 1, 1) := by decide +kernel
theorem d_M_layHinge_24 : decode q_M_layHinge.2.1 24 = .ok (.iload_n 2, 1) := by decide +kernel
theorem d_M_layHinge_25 : decode q_M_layHinge.2.1 25 = .ok (.iconst 1, 1) := by decide +kernel
theorem d_M_layHinge_26 : decode q_M_layHinge.2.1 26 = .ok (.invokevirtual 377, 3) := by decide +kernel
theorem ml_M_377 : rx_CV "GlassRoomModel" 377 q_M_throwOn 3 := ⟨⟨(rx_s7 106 rfl rfl), (rx_s7 108 rfl rfl), (rx_s0 70 rfl rfl)⟩, ⟨(rx_s1 13 rfl rfl), q_M_throwOn_k, ⟨by decide, by decide, by decide +kernel⟩, by decide⟩⟩
theorem d_M_layHinge_29 : decode q_M_layHinge.2.1 29 = .ok (.aload_n 0, 1) := by decide +kernel
theorem d_M_layHinge_30 : decode q_M_layHinge.2.1 30 = .ok (.iload_n 1, 1) := by decide +kernel
theorem d_M_layHinge_31 : decode q_M_layHinge.2.1 31 = .ok (.iload_n 2, 1) := by decide +kernel
theorem d_M_layHinge_32 : decode q_M_layHinge.2.1 32 = .ok (.iconst 0, 1) := by decide +kernel
theorem d_M_layHinge_33 : decode q_M_layHinge.2.1 33 = .ok (.invokevirtual 377, 3) := by decide +kernel
theorem d_M_layHinge_36 : decode q_M_layHinge.2.1 36 = .ok (.aload_n 0, 1) := by decide +kernel
theorem d_M_layHinge_37 : decode q_M_layHinge.2.1 37 = .ok (.iconst 0, 1) := by decide +kernel
theorem d_M_layHinge_38 : decode q_M_layHinge.2.1 38 = .ok (.putfield 381, 3) := by decide +kernel
theorem fp_M_381 : rx_FP "GlassRoomModel" 381 12 38 (.int) := ⟨(RX12, TX12, 45), tyX12, rfl, by decide, (rx_s5 137 rfl rfl), rx_T12, tyX12_ok, nmX12, rfl, rfl⟩
theorem d_M_layHinge_41 : decode q_M_layHinge.2.1 41 = .ok (.aload_n 0, 1) := by decide +kernel
theorem d_M_layHinge_42 : decode q_M_layHinge.2.1 42 = .ok (.iconst 0, 1) := by decide +kernel
theorem d_M_layHinge_43 : decode q_M_layHinge.2.1 43 = .ok (.putfield 384, 3) := by decide +kernel
theorem fp_M_384 : rx_FP "GlassRoomModel" 384 12 39 (.int) := ⟨(RX12, TX12, 45), tyX12, rfl, by decide, (rx_s5 138 rfl rfl), rx_T12, tyX12_ok, nmX12, rfl, rfl⟩
theorem d_M_layHinge_46 : decode q_M_layHinge.2.1 46 = .ok (.iconst 0, 1) := by decide +kernel
theorem d_M_layHinge_47 : decode q_M_layHinge.2.1 47 = .ok (.istore_n 3, 1) := by decide +kernel
theorem d_M_layHinge_15 : decode q_M_layHinge.2.1 15 = .ok (.iastore, 1) := by decide +kernel
theorem d_M_layHinge_16 : decode q_M_layHinge.2.1 16 = .ok (.iinc 3 1, 3) := by decide +kernel
theorem d_M_layHinge_19 : decode q_M_layHinge.2.1 19 = .ok (.goto (-17), 3) := by decide +kernel
theorem d_M_layHinge_48 : decode q_M_layHinge.2.1 48 = .ok (.iload_n 3, 1) := by decide +kernel
theorem d_M_layHinge_49 : decode q_M_layHinge.2.1 49 = .ok (.sipush 360, 3) := by decide +kernel
theorem d_M_layHinge_52 : decode q_M_layHinge.2.1 52 = .ok (.if_icmp .ge 49, 3) := by decide +kernel
theorem d_M_layHinge_55 : decode q_M_layHinge.2.1 55 = .ok (.iload_n 3, 1) := by decide +kernel
theorem d_M_layHinge_56 : decode q_M_layHinge.2.1 56 = .ok (.iload_n 2, 1) := by decide +kernel
theorem d_M_layHinge_57 : decode q_M_layHinge.2.1 57 = .ok (.if_icmp .eq 38, 3) := by decide +kernel
theorem d_M_layHinge_95 : decode q_M_layHinge.2.1 95 = .ok (.iinc 3 1, 3) := by decide +kernel
theorem d_M_layHinge_98 : decode q_M_layHinge.2.1 98 = .ok (.goto (-50), 3) := by decide +kernel
theorem d_M_layHinge_101 : decode q_M_layHinge.2.1 101 = .ok (.return_, 1) := by decide +kernel
theorem d_M_layHinge_60 : decode q_M_layHinge.2.1 60 = .ok (.aload_n 0, 1) := by decide +kernel
theorem d_M_layHinge_61 : decode q_M_layHinge.2.1 61 = .ok (.getfield 71, 3) := by decide +kernel
theorem d_M_layHinge_64 : decode q_M_layHinge.2.1 64 = .ok (.iload_n 3, 1) := by decide +kernel
theorem d_M_layHinge_65 : decode q_M_layHinge.2.1 65 = .ok (.iaload, 1) := by decide +kernel
theorem d_M_layHinge_66 : decode q_M_layHinge.2.1 66 = .ok (.iconst (-1), 1) := by decide +kernel
theorem d_M_layHinge_67 : decode q_M_layHinge.2.1 67 = .ok (.if_icmp .eq 28, 3) := by decide +kernel
theorem d_M_layHinge_70 : decode q_M_layHinge.2.1 70 = .ok (.aload_n 0, 1) := by decide +kernel
theorem d_M_layHinge_71 : decode q_M_layHinge.2.1 71 = .ok (.dup, 1) := by decide +kernel
theorem d_M_layHinge_72 : decode q_M_layHinge.2.1 72 = .ok (.getfield 381, 3) := by decide +kernel
theorem fl_M_381 : rx_F "GlassRoomModel" 381 12 38 := ⟨(RX12, TX12, 45), rfl, by decide, (rx_s5 137 rfl rfl), rx_T12⟩
theorem d_M_layHinge_75 : decode q_M_layHinge.2.1 75 = .ok (.iconst 1, 1) := by decide +kernel
theorem d_M_layHinge_76 : decode q_M_layHinge.2.1 76 = .ok (.iadd, 1) := by decide +kernel
theorem d_M_layHinge_77 : decode q_M_layHinge.2.1 77 = .ok (.putfield 381, 3) := by decide +kernel
theorem d_M_layHinge_80 : decode q_M_layHinge.2.1 80 = .ok (.aload_n 0, 1) := by decide +kernel
theorem d_M_layHinge_81 : decode q_M_layHinge.2.1 81 = .ok (.dup, 1) := by decide +kernel
theorem d_M_layHinge_82 : decode q_M_layHinge.2.1 82 = .ok (.getfield 384, 3) := by decide +kernel
theorem fl_M_384 : rx_F "GlassRoomModel" 384 12 39 := ⟨(RX12, TX12, 45), rfl, by decide, (rx_s5 138 rfl rfl), rx_T12⟩
theorem d_M_layHinge_85 : decode q_M_layHinge.2.1 85 = .ok (.aload_n 0, 1) := by decide +kernel
theorem d_M_layHinge_86 : decode q_M_layHinge.2.1 86 = .ok (.getfield 71, 3) := by decide +kernel
theorem d_M_layHinge_89 : decode q_M_layHinge.2.1 89 = .ok (.iload_n 3, 1) := by decide +kernel
theorem d_M_layHinge_90 : decode q_M_layHinge.2.1 90 = .ok (.iaload, 1) := by decide +kernel
theorem d_M_layHinge_91 : decode q_M_layHinge.2.1 91 = .ok (.iadd, 1) := by decide +kernel
theorem d_M_layHinge_92 : decode q_M_layHinge.2.1 92 = .ok (.putfield 384, 3) := by decide +kernel
theorem d_M_hinge_0 : decode q_M_hinge.2.1 0 = .ok (.iload_n 1, 1) := by decide +kernel
theorem d_M_hinge_1 : decode q_M_hinge.2.1 1 = .ok (.iconst 1, 1) := by decide +kernel
theorem d_M_hinge_2 : decode q_M_hinge.2.1 2 = .ok (.sipush 180, 3) := by decide +kernel
theorem d_M_hinge_5 : decode q_M_hinge.2.1 5 = .ok (.invokestatic 198, 3) := by decide +kernel
theorem d_M_hinge_8 : decode q_M_hinge.2.1 8 = .ok (.ifCond .eq 23, 3) := by decide +kernel
theorem d_M_hinge_31 : decode q_M_hinge.2.1 31 = .ok (.iconst (-1), 1) := by decide +kernel
theorem d_M_hinge_32 : decode q_M_hinge.2.1 32 = .ok (.ireturn, 1) := by decide +kernel
theorem d_M_hinge_11 : decode q_M_hinge.2.1 11 = .ok (.iload_n 2, 1) := by decide +kernel
theorem d_M_hinge_12 : decode q_M_hinge.2.1 12 = .ok (.iconst 1, 1) := by decide +kernel
theorem d_M_hinge_13 : decode q_M_hinge.2.1 13 = .ok (.iload_n 1, 1) := by decide +kernel
theorem d_M_hinge_14 : decode q_M_hinge.2.1 14 = .ok (.iconst 1, 1) := by decide +kernel
theorem d_M_hinge_15 : decode q_M_hinge.2.1 15 = .ok (.isub, 1) := by decide +kernel
theorem d_M_hinge_16 : decode q_M_hinge.2.1 16 = .ok (.invokestatic 198, 3) := by decide +kernel
theorem d_M_hinge_19 : decode q_M_hinge.2.1 19 = .ok (.ifCond .eq 12, 3) := by decide +kernel
theorem d_M_hinge_22 : decode q_M_hinge.2.1 22 = .ok (.iload_n 3, 1) := by decide +kernel
theorem d_M_hinge_23 : decode q_M_hinge.2.1 23 = .ok (.iconst 0, 1) := by decide +kernel
theorem d_M_hinge_24 : decode q_M_hinge.2.1 24 = .ok (.iconst 1, 1) := by decide +kernel
theorem d_M_hinge_25 : decode q_M_hinge.2.1 25 = .ok (.invokestatic 198, 3) := by decide +kernel
theorem d_M_hinge_28 : decode q_M_hinge.2.1 28 = .ok (.ifCond .ne 5, 3) := by decide +kernel
theorem d_M_hinge_33 : decode q_M_hinge.2.1 33 = .ok (.aload_n 0, 1) := by decide +kernel
theorem d_M_hinge_34 : decode q_M_hinge.2.1 34 = .ok (.iload_n 1, 1) := by decide +kernel
theorem d_M_hinge_35 : decode q_M_hinge.2.1 35 = .ok (.iload_n 2, 1) := by decide +kernel
theorem d_M_hinge_36 : decode q_M_hinge.2.1 36 = .ok (.invokevirtual 387, 3) := by decide +kernel
theorem ml_M_387 : rx_CV "GlassRoomModel" 387 q_M_layHinge 2 := ⟨⟨(rx_s7 102 rfl rfl), (rx_s7 104 rfl rfl), (rx_s0 69 rfl rfl)⟩, ⟨(rx_s1 13 rfl rfl), q_M_layHinge_k, ⟨by decide, by decide, by decide +kernel⟩, by decide⟩⟩
theorem d_M_hinge_39 : decode q_M_hinge.2.1 39 = .ok (.iload_n 3, 1) := by decide +kernel
theorem d_M_hinge_40 : decode q_M_hinge.2.1 40 = .ok (.ifCond .ne 10, 3) := by decide +kernel
theorem d_M_hinge_43 : decode q_M_hinge.2.1 43 = .ok (.aload_n 0, 1) := by decide +kernel
theorem d_M_hinge_44 : decode q_M_hinge.2.1 44 = .ok (.getfield 381, 3) := by decide +kernel
theorem d_M_hinge_47 : decode q_M_hinge.2.1 47 = .ok (.goto 7, 3) := by decide +kernel
theorem d_M_hinge_50 : decode q_M_hinge.2.1 50 = .ok (.aload_n 0, 1) := by decide +kernel
theorem d_M_hinge_51 : decode q_M_hinge.2.1 51 = .ok (.getfield 384, 3) := by decide +kernel
theorem d_M_hinge_54 : decode q_M_hinge.2.1 54 = .ok (.ireturn, 1) := by decide +kernel
theorem d_M_doSee_0 : decode q_M_doSee.2.1 0 = .ok (.iconst 1, 1) := by decide +kernel
theorem d_M_doSee_1 : decode q_M_doSee.2.1 1 = .ok (.istore_n 3, 1) := by decide +kernel
theorem d_M_doSee_2 : decode q_M_doSee.2.1 2 = .ok (.iload_n 3, 1) := by decide +kernel
theorem d_M_doSee_3 : decode q_M_doSee.2.1 3 = .ok (.iload_n 1, 1) := by decide +kernel
theorem d_M_doSee_4 : decode q_M_doSee.2.1 4 = .ok (.if_icmp .ge 25, 3) := by decide +kernel
theorem d_M_doSee_29 : decode q_M_doSee.2.1 29 = .ok (.iconst 0, 1) := by decide +kernel
theorem d_M_doSee_30 : decode q_M_doSee.2.1 30 = .ok (.ireturn, 1) := by decide +kernel
theorem d_M_doSee_7 : decode q_M_doSee.2.1 7 = .ok (.aload_n 0, 1) := by decide +kernel
theorem d_M_doSee_8 : decode q_M_doSee.2.1 8 = .ok (.iload_n 1, 1) := by decide +kernel
theorem d_M_doSee_9 : decode q_M_doSee.2.1 9 = .ok (.iload_n 3, 1) := by decide +kernel
theorem d_M_doSee_10 : decode q_M_doSee.2.1 10 = .ok (.invokevirtual 387, 3) := by decide +kernel
theorem d_M_doSee_13 : decode q_M_doSee.2.1 13 = .ok (.aload_n 0, 1) := by decide +kernel
theorem d_M_doSee_14 : decode q_M_doSee.2.1 14 = .ok (.getfield 381, 3) := by decide +kernel
theorem d_M_doSee_17 : decode q_M_doSee.2.1 17 = .ok (.iload_n 2, 1) := by decide +kernel
theorem d_M_doSee_18 : decode q_M_doSee.2.1 18 = .ok (.if_icmp .ne 5, 3) := by decide +kernel
theorem d_M_doSee_21 : decode q_M_doSee.2.1 21 = .ok (.iconst 1, 1) := by decide +kernel
theorem d_M_doSee_22 : decode q_M_doSee.2.1 22 = .ok (.ireturn, 1) := by decide +kernel
theorem d_M_doSee_23 : decode q_M_doSee.2.1 23 = .ok (.iinc 3 1, 3) := by decide +kernel
theorem d_M_doSee_26 : decode q_M_doSee.2.1 26 = .ok (.goto (-24), 3) := by decide +kernel
theorem d_M_angles_0 : decode q_M_angles.2.1 0 = .ok (.iload_n 2, 1) := by decide +kernel
theorem d_M_angles_1 : decode q_M_angles.2.1 1 = .ok (.iconst (-1), 1) := by decide +kernel
theorem d_M_angles_2 : decode q_M_angles.2.1 2 = .ok (.if_icmp .ge 5, 3) := by decide +kernel
theorem d_M_angles_7 : decode q_M_angles.2.1 7 = .ok (.iconst 0, 1) := by decide +kernel
theorem d_M_angles_8 : decode q_M_angles.2.1 8 = .ok (.istore_n 3, 1) := by decide +kernel
theorem d_M_angles_9 : decode q_M_angles.2.1 9 = .ok (.iconst 1, 1) := by decide +kernel
theorem d_M_angles_10 : decode q_M_angles.2.1 10 = .ok (.istore 4, 2) := by decide +kernel
theorem d_M_angles_5 : decode q_M_angles.2.1 5 = .ok (.iconst (-1), 1) := by decide +kernel
theorem d_M_angles_6 : decode q_M_angles.2.1 6 = .ok (.ireturn, 1) := by decide +kernel
theorem d_M_angles_12 : decode q_M_angles.2.1 12 = .ok (.iload 4, 2) := by decide +kernel
theorem d_M_angles_14 : decode q_M_angles.2.1 14 = .ok (.sipush 180, 3) := by decide +kernel
theorem d_M_angles_17 : decode q_M_angles.2.1 17 = .ok (.if_icmp .gt 30, 3) := by decide +kernel
theorem d_M_angles_47 : decode q_M_angles.2.1 47 = .ok (.iload_n 2, 1) := by decide +kernel
theorem d_M_angles_48 : decode q_M_angles.2.1 48 = .ok (.iconst (-1), 1) := by decide +kernel
theorem d_M_angles_49 : decode q_M_angles.2.1 49 = .ok (.if_icmp .ne 7, 3) := by decide +kernel
theorem d_M_angles_52 : decode q_M_angles.2.1 52 = .ok (.iload_n 3, 1) := by decide +kernel
theorem d_M_angles_53 : decode q_M_angles.2.1 53 = .ok (.goto 4, 3) := by decide +kernel
theorem d_M_angles_56 : decode q_M_angles.2.1 56 = .ok (.iconst (-1), 1) := by decide +kernel
theorem d_M_angles_57 : decode q_M_angles.2.1 57 = .ok (.ireturn, 1) := by decide +kernel
theorem d_M_angles_20 : decode q_M_angles.2.1 20 = .ok (.aload_n 0, 1) := by decide +kernel
theorem d_M_angles_21 : decode q_M_angles.2.1 21 = .ok (.iload 4, 2) := by decide +kernel
theorem d_M_angles_23 : decode q_M_angles.2.1 23 = .ok (.iload_n 1, 1) := by decide +kernel
theorem d_M_angles_24 : decode q_M_angles.2.1 24 = .ok (.invokevirtual 390, 3) := by decide +kernel
theorem ml_M_390 : rx_CV "GlassRoomModel" 390 q_M_doSee 2 := ⟨⟨(rx_s7 115 rfl rfl), (rx_s7 117 rfl rfl), (rx_s0 71 rfl rfl)⟩, ⟨(rx_s1 13 rfl rfl), q_M_doSee_k, ⟨by decide, by decide, by decide +kernel⟩, by decide⟩⟩
theorem d_M_angles_27 : decode q_M_angles.2.1 27 = .ok (.ifCond .eq 14, 3) := by decide +kernel
theorem d_M_angles_41 : decode q_M_angles.2.1 41 = .ok (.iinc 4 1, 3) := by decide +kernel
theorem d_M_angles_44 : decode q_M_angles.2.1 44 = .ok (.goto (-32), 3) := by decide +kernel
theorem d_M_angles_30 : decode q_M_angles.2.1 30 = .ok (.iload_n 3, 1) := by decide +kernel
theorem d_M_angles_31 : decode q_M_angles.2.1 31 = .ok (.iload_n 2, 1) := by decide +kernel
theorem d_M_angles_32 : decode q_M_angles.2.1 32 = .ok (.if_icmp .ne 6, 3) := by decide +kernel
theorem d_M_angles_35 : decode q_M_angles.2.1 35 = .ok (.iload 4, 2) := by decide +kernel
theorem d_M_angles_37 : decode q_M_angles.2.1 37 = .ok (.ireturn, 1) := by decide +kernel
theorem d_M_angles_38 : decode q_M_angles.2.1 38 = .ok (.iinc 3 1, 3) := by decide +kernel
theorem d_GR_feed_0 : decode q_GR_feed.2.1 0 = .ok (.iload_n 1, 1) := by decide +kernel
theorem d_GR_feed_1 : decode q_GR_feed.2.1 1 = .ok (.invokestatic 111, 3) := by decide +kernel
theorem ml_GR_111 : rx_CS "GlassRoom" 111 q_Ta_signsIn 1 := ⟨⟨(rx_s2 155 rfl rfl), (rx_s2 156 rfl rfl)⟩, ⟨(rx_s1 2 rfl rfl), q_Ta_signsIn_k, ⟨by decide, by decide, by decide +kernel⟩, by decide⟩⟩
theorem d_GR_feed_4 : decode q_GR_feed.2.1 4 = .ok (.iload_n 2, 1) := by decide +kernel
theorem d_GR_feed_5 : decode q_GR_feed.2.1 5 = .ok (.invokestatic 111, 3) := by decide +kernel
theorem d_GR_feed_8 : decode q_GR_feed.2.1 8 = .ok (.iadd, 1) := by decide +kernel
theorem d_GR_feed_9 : decode q_GR_feed.2.1 9 = .ok (.iload_n 3, 1) := by decide +kernel
theorem d_GR_feed_10 : decode q_GR_feed.2.1 10 = .ok (.invokestatic 111, 3) := by decide +kernel
theorem d_GR_feed_13 : decode q_GR_feed.2.1 13 = .ok (.iadd, 1) := by decide +kernel
theorem d_GR_feed_14 : decode q_GR_feed.2.1 14 = .ok (.iload 4, 2) := by decide +kernel
theorem d_GR_feed_16 : decode q_GR_feed.2.1 16 = .ok (.invokestatic 111, 3) := by decide +kernel
theorem d_GR_feed_19 : decode q_GR_feed.2.1 19 = .ok (.iadd, 1) := by decide +kernel
theorem d_GR_feed_20 : decode q_GR_feed.2.1 20 = .ok (.iload 5, 2) := by decide +kernel
theorem d_GR_feed_22 : decode q_GR_feed.2.1 22 = .ok (.invokestatic 111, 3) := by decide +kernel
theorem d_GR_feed_25 : decode q_GR_feed.2.1 25 = .ok (.iadd, 1) := by decide +kernel
theorem d_GR_feed_26 : decode q_GR_feed.2.1 26 = .ok (.istore 6, 2) := by decide +kernel
theorem d_GR_feed_28 : decode q_GR_feed.2.1 28 = .ok (.aload_n 0, 1) := by decide +kernel
theorem d_GR_feed_29 : decode q_GR_feed.2.1 29 = .ok (.getfield 12, 3) := by decide +kernel
theorem d_GR_feed_32 : decode q_GR_feed.2.1 32 = .ok (.getfield 115, 3) := by decide +kernel
theorem d_GR_feed_35 : decode q_GR_feed.2.1 35 = .ok (.iload 6, 2) := by decide +kernel
theorem d_GR_feed_37 : decode q_GR_feed.2.1 37 = .ok (.iadd, 1) := by decide +kernel
theorem d_GR_feed_38 : decode q_GR_feed.2.1 38 = .ok (.sipush 160, 3) := by decide +kernel
theorem d_GR_feed_41 : decode q_GR_feed.2.1 41 = .ok (.if_icmp .le 5, 3) := by decide +kernel
theorem d_GR_feed_46 : decode q_GR_feed.2.1 46 = .ok (.aload_n 0, 1) := by decide +kernel
theorem d_GR_feed_47 : decode q_GR_feed.2.1 47 = .ok (.getfield 12, 3) := by decide +kernel
theorem d_GR_feed_50 : decode q_GR_feed.2.1 50 = .ok (.iload_n 1, 1) := by decide +kernel
theorem d_GR_feed_51 : decode q_GR_feed.2.1 51 = .ok (.invokevirtual 118, 3) := by decide +kernel
theorem ml_GR_118 : rx_CV "GlassRoom" 118 q_Ta_add 1 := ⟨⟨(rx_s2 158 rfl rfl), (rx_s2 159 rfl rfl), (rx_s2 160 rfl rfl)⟩, ⟨(rx_s1 2 rfl rfl), q_Ta_add_k, ⟨by decide, by decide, by decide +kernel⟩, by decide⟩⟩
theorem d_GR_feed_54 : decode q_GR_feed.2.1 54 = .ok (.aload_n 0, 1) := by decide +kernel
theorem d_GR_feed_55 : decode q_GR_feed.2.1 55 = .ok (.getfield 12, 3) := by decide +kernel
theorem d_GR_feed_58 : decode q_GR_feed.2.1 58 = .ok (.iload_n 2, 1) := by decide +kernel
theorem d_GR_feed_59 : decode q_GR_feed.2.1 59 = .ok (.invokevirtual 118, 3) := by decide +kernel
theorem d_GR_feed_62 : decode q_GR_feed.2.1 62 = .ok (.aload_n 0, 1) := by decide +kernel
theorem d_GR_feed_63 : decode q_GR_feed.2.1 63 = .ok (.getfield 12, 3) := by decide +kernel
theorem d_GR_feed_66 : decode q_GR_feed.2.1 66 = .ok (.iload_n 3, 1) := by decide +kernel
theorem d_GR_feed_67 : decode q_GR_feed.2.1 67 = .ok (.invokevirtual 118, 3) := by decide +kernel
theorem d_GR_feed_70 : decode q_GR_feed.2.1 70 = .ok (.aload_n 0, 1) := by decide +kernel
theorem d_GR_feed_71 : decode q_GR_feed.2.1 71 = .ok (.getfield 12, 3) := by decide +kernel
theorem d_GR_feed_74 : decode q_GR_feed.2.1 74 = .ok (.iload 4, 2) := by decide +kernel
theorem d_GR_feed_76 : decode q_GR_feed.2.1 76 = .ok (.invokevirtual 118, 3) := by decide +kernel
theorem d_GR_feed_79 : decode q_GR_feed.2.1 79 = .ok (.aload_n 0, 1) := by decide +kernel
theorem d_GR_feed_80 : decode q_GR_feed.2.1 80 = .ok (.getfield 12, 3) := by decide +kernel
theorem d_GR_feed_83 : decode q_GR_feed.2.1 83 = .ok (.iload 5, 2) := by decide +kernel
theorem d_GR_feed_85 : decode q_GR_feed.2.1 85 = .ok (.invokevirtual 118, 3) := by decide +kernel
theorem d_GR_feed_88 : decode q_GR_feed.2.1 88 = .ok (.aload_n 0, 1) := by decide +kernel
theorem d_GR_feed_89 : decode q_GR_feed.2.1 89 = .ok (.getfield 12, 3) := by decide +kernel
theorem d_GR_feed_92 : decode q_GR_feed.2.1 92 = .ok (.getfield 115, 3) := by decide +kernel
theorem d_GR_feed_95 : decode q_GR_feed.2.1 95 = .ok (.ireturn, 1) := by decide +kernel
theorem d_GR_feed_44 : decode q_GR_feed.2.1 44 = .ok (.iconst (-1), 1) := by decide +kernel
theorem d_GR_feed_45 : decode q_GR_feed.2.1 45 = .ok (.ireturn, 1) := by decide +kernel
set_option maxHeartbeats 4000000 in
set_option maxRecDepth 20000 in
theorem w_GR_angles {G : rx_Gh} {hp : rx_Hp} {F : Int32 → rx_Hp → Prop} (a1 : Int32) (a2 : Int32) (H : Rn wC G 6 q_GR_angles 5 [none, some (.int a1), some (.int a2), some (.int 0), some (.int 1)] [] hp (rI F)) : Ev wC G 6 q_GR_angles [.ref 0, .int a1, .int a2] hp (rI F) := by
  refine ev_of rfl (Nat.le_of_ble_eq_true rfl) rfl ?_
  show Rn wC G 6 q_GR_angles 0 [some (.ref 0), some (.int a1), some (.int a2), none, none] [] hp (rI F)
  refine r_iconst d_GR_angles_0 ic_0 ?_
  refine r_istore_n (i := 3) (lz := [some (.ref 0), some (.int a1), some (.int a2), some (.int 0), none]) d_GR_angles_1 rfl (by decide) rfl rfl ?_
  refine r_iconst d_GR_angles_2 ic_1 ?_
  refine r_istore (lz := [some (.ref 0), some (.int a1), some (.int a2), some (.int 0), some (.int 1)]) d_GR_angles_3 (by decide) rfl rfl ?_
  exact rx_fgt [true] H
set_option maxHeartbeats 4000000 in
set_option maxRecDepth 20000 in
theorem w_GR_angles_5 {G : rx_Gh} {hp : rx_Hp} {F : Int32 → rx_Hp → Prop} (x1 : Int32) (x2 : Int32) (x3 : Int32) (x4 : Int32) (H : (180 < x4 → F ((if x2 = (-1) then x3 else (-1)) : Int32) hp) ∧ (¬ 180 < x4 → Ev wC G 5 q_GR_showsSomewhere [.int x4, .int x1] hp (rI fun r2 h1 => (r2 = 0 → Rn wC G 6 q_GR_angles 5 [none, some (.int x1), some (.int x2), some (.int x3), some (.int (x4 + 1))] [] h1 (rI F)) ∧ (¬ r2 = 0 → (x3 = x2 → F x4 h1) ∧ (¬ x3 = x2 → Rn wC G 6 q_GR_angles 5 [none, some (.int x1), some (.int x2), some (.int (x3 + 1)), some (.int (x4 + 1))] [] h1 (rI F)))))) : Rn wC G 6 q_GR_angles 5 [none, some (.int x1), some (.int x2), some (.int x3), some (.int x4)] [] hp (rI F) := by
  refine r_iload d_GR_angles_5 rfl ?_
  refine r_sipush d_GR_angles_7 sp_180 ?_
  refine r_icmp_gt (tgt := 39) d_GR_angles_10 (by decide) (fun hc_10 => ?_) (fun hc_10 => ?_)
  · replace H := H.1 hc_10
    have J41 : ∀ (v41_0 : Int32), v41_0 = ((if x2 = (-1) then x3 else (-1)) : Int32) → Rn wC G 6 q_GR_angles 49 [none, some (.int x1), some (.int x2), some (.int x3), some (.int x4)] [.int v41_0] hp (rI F) := by
      rintro _ rfl
      exact rI_ret d_GR_angles_49 rfl H
    refine r_iload_n (i := 2) d_GR_angles_39 rfl rfl ?_
    refine r_iconst d_GR_angles_40 ic_m1 ?_
    refine r_icmp_ne (tgt := 48) d_GR_angles_41 (by decide) (fun hc_41 => ?_) (fun hc_41 => ?_)
    · refine r_iconst d_GR_angles_48 ic_m1 ?_
      exact J41 _ (((if_neg hc_41).trans rfl)).symm
    · refine r_iload_n (i := 3) d_GR_angles_44 rfl rfl ?_
      refine r_goto (tgt := 49) d_GR_angles_45 (by decide) ?_
      exact J41 _ (((if_pos hc_41).trans rfl)).symm
  · replace H := H.2 hc_10
    refine r_iload d_GR_angles_13 rfl ?_
    refine r_iload_n (i := 1) d_GR_angles_15 rfl rfl ?_
    refine rc_SI (d' := 5) [.int x4, .int x1] [] d_GR_angles_16 ml_GR_320 rfl rfl (by decide) (Nat.le_of_ble_eq_true rfl) H ?_
    intro r2 h1 H
    refine r_if_eq (tgt := 33) d_GR_angles_19 (by decide) (fun hc_19 => ?_) (fun hc_19 => ?_)
    · replace H := H.1 hc_19
      refine r_iinc (v := x4 + 1) (lz := [none, some (.int x1), some (.int x2), some (.int x3), some (.int (x4 + 1))]) d_GR_angles_33 rfl (by rw [ic_1]) (by decide) rfl rfl ?_
      refine r_goto (tgt := 5) d_GR_angles_36 (by decide) ?_
      exact H
    · replace H := H.2 hc_19
      refine r_iload_n (i := 3) d_GR_angles_22 rfl rfl ?_
      refine r_iload_n (i := 2) d_GR_angles_23 rfl rfl ?_
      refine r_icmp_ne (tgt := 30) d_GR_angles_24 (by decide) (fun hc_24 => ?_) (fun hc_24 => ?_)
      · replace H := H.2 hc_24
        refine r_iinc (v := x3 + 1) (lz := [none, some (.int x1), some (.int x2), some (.int (x3 + 1)), some (.int x4)]) d_GR_angles_30 rfl (by rw [ic_1]) (by decide) rfl rfl ?_
        refine r_iinc (v := x4 + 1) (lz := [none, some (.int x1), some (.int x2), some (.int (x3 + 1)), some (.int (x4 + 1))]) d_GR_angles_33 rfl (by rw [ic_1]) (by decide) rfl rfl ?_
        refine r_goto (tgt := 5) d_GR_angles_36 (by decide) ?_
        exact H
      · replace H := H.1 hc_24
        refine r_iload d_GR_angles_27 rfl ?_
        exact rI_ret d_GR_angles_29 rfl H
set_option maxHeartbeats 4000000 in
set_option maxRecDepth 20000 in
theorem w_M_layHinge {G : rx_Gh} {hp : rx_Hp} {F : rx_Hp → Prop} (a1 : Int32) (a2 : Int32) (H : Rn wM G 3 q_M_layHinge 2 [some (.ref 0), some (.int a1), some (.int a2), some (.int 0)] [] hp (rV F)) : Ev wM G 3 q_M_layHinge [.ref 0, .int a1, .int a2] hp (rV F) := by
  refine ev_of rfl (Nat.le_of_ble_eq_true rfl) rfl ?_
  show Rn wM G 3 q_M_layHinge 0 [some (.ref 0), some (.int a1), some (.int a2), none] [] hp (rV F)
  refine r_iconst d_M_layHinge_0 ic_0 ?_
  refine r_istore_n (i := 3) (lz := [some (.ref 0), some (.int a1), some (.int a2), some (.int 0)]) d_M_layHinge_1 rfl (by decide) rfl rfl ?_
  exact H
set_option maxHeartbeats 4000000 in
set_option maxRecDepth 20000 in
theorem w_M_layHinge_2 {G : rx_Gh} {hp : rx_Hp} {F : rx_Hp → Prop} (x1 : Int32) (x2 : Int32) (x3 : Int32) (H : (360 ≤ x3 → Ev wM G 2 q_M_throwOn [.ref 0, .int x1, .int x2, .int 1] hp (rV fun h1 => Ev wM G 2 q_M_throwOn [.ref 0, .int x1, .int x2, .int 0] h1 (rV fun h2 => Rn wM G 3 q_M_layHinge 48 [some (.ref 0), none, some (.int x2), some (.int 0)] [] (rx_pf (rx_pf h2 0 38 0) 0 39 0) (rV F)))) ∧ (¬ 360 ≤ x3 → vp_in x3 360 ∧ (Rn wM G 3 q_M_layHinge 2 [some (.ref 0), some (.int x1), some (.int x2), some (.int (x3 + 1))] [] (rx_pa hp 20 x3.toNatClampNeg (-1)) (rV F)))) : Rn wM G 3 q_M_layHinge 2 [some (.ref 0), some (.int x1), some (.int x2), some (.int x3)] [] hp (rV F) := by
  refine r_iload_n (i := 3) d_M_layHinge_2 rfl rfl ?_
  refine r_sipush d_M_layHinge_3 sp_360 ?_
  refine r_icmp_ge (tgt := 22) d_M_layHinge_6 (by decide) (fun hc_6 => ?_) (fun hc_6 => ?_)
  · replace H := H.1 hc_6
    refine r_aload_n (i := 0) d_M_layHinge_22 rfl rfl ?_
    refine r_iload_n (i := 1) d_M_layHinge_23 rfl rfl ?_
    refine r_iload_n (i := 2) d_M_layHinge_24 rfl rfl ?_
    refine r_iconst d_M_layHinge_25 ic_1 ?_
    refine rc_VV (b := 0) (d' := 2) [.int x1, .int x2, .int 1] [] d_M_layHinge_26 ml_M_377 rfl rfl (by decide) (by decide) rfl rfl (Nat.le_of_ble_eq_true rfl) H ?_
    intro h1 H
    refine r_aload_n (i := 0) d_M_layHinge_29 rfl rfl ?_
    refine r_iload_n (i := 1) d_M_layHinge_30 rfl rfl ?_
    refine r_iload_n (i := 2) d_M_layHinge_31 rfl rfl ?_
    refine r_iconst d_M_layHinge_32 ic_0 ?_
    refine rc_VV (b := 0) (d' := 2) [.int x1, .int x2, .int 0] [] d_M_layHinge_33 ml_M_377 rfl rfl (by decide) (by decide) rfl rfl (Nat.le_of_ble_eq_true rfl) H ?_
    intro h2 H
    refine r_aload_n (i := 0) d_M_layHinge_36 rfl rfl ?_
    refine r_iconst d_M_layHinge_37 ic_0 ?_
    refine r_putI (b := 0) d_M_layHinge_38 fp_M_381 ⟨rfl, rfl⟩ (by decide) rfl rfl ?_
    refine r_aload_n (i := 0) d_M_layHinge_41 rfl rfl ?_
    refine r_iconst d_M_layHinge_42 ic_0 ?_
    refine r_putI (b := 0) d_M_layHinge_43 fp_M_384 ⟨rfl, rfl⟩ (by decide) rfl rfl ?_
    refine r_iconst d_M_layHinge_46 ic_0 ?_
    refine r_istore_n (i := 3) (lz := [some (.ref 0), some (.int x1), some (.int x2), some (.int 0)]) d_M_layHinge_47 rfl (by decide) rfl rfl ?_
    exact rx_fgt [false, true] H
  · replace H := H.2 hc_6
    refine r_aload_n (i := 0) d_M_layHinge_9 rfl rfl ?_
    refine r_getR (b := 0) (r := 20) d_M_layHinge_10 fl_M_71 (by decide) rfl rfl rfl ?_
    refine r_iload_n (i := 3) d_M_layHinge_13 rfl rfl ?_
    refine r_iconst d_M_layHinge_14 ic_m1 ?_
    obtain ⟨hi_15, H⟩ := H
    refine r_iast (b := 20) (i := x3.toNatClampNeg) d_M_layHinge_15 (by decide) rfl hi_15 rfl ?_
    refine r_iinc (v := x3 + 1) (lz := [some (.ref 0), some (.int x1), some (.int x2), some (.int (x3 + 1))]) d_M_layHinge_16 rfl (by rw [ic_1]) (by decide) rfl rfl ?_
    refine r_goto (tgt := 2) d_M_layHinge_19 (by decide) ?_
    exact H
set_option maxHeartbeats 4000000 in
set_option maxRecDepth 20000 in
theorem w_M_layHinge_48 {G : rx_Gh} {hp : rx_Hp} {F : rx_Hp → Prop} (x2 : Int32) (x3 : Int32) (H : (360 ≤ x3 → F hp) ∧ (¬ 360 ≤ x3 → (x3 = x2 → Rn wM G 3 q_M_layHinge 48 [some (.ref 0), none, some (.int x2), some (.int (x3 + 1))] [] hp (rV F)) ∧ (¬ x3 = x2 → vp_in x3 360 ∧ (((hp.2.1 20 x3.toNatClampNeg) = (-1) → Rn wM G 3 q_M_layHinge 48 [some (.ref 0), none, some (.int x2), some (.int (x3 + 1))] [] hp (rV F)) ∧ (¬ (hp.2.1 20 x3.toNatClampNeg) = (-1) → Rn wM G 3 q_M_layHinge 48 [some (.ref 0), none, some (.int x2), some (.int (x3 + 1))] [] (rx_pf (rx_pf hp 0 38 ((hp.1 0 38) + 1)) 0 39 ((hp.1 0 39) + (hp.2.1 20 x3.toNatClampNeg))) (rV F)))))) : Rn wM G 3 q_M_layHinge 48 [some (.ref 0), none, some (.int x2), some (.int x3)] [] hp (rV F) := by
  refine r_iload_n (i := 3) d_M_layHinge_48 rfl rfl ?_
  refine r_sipush d_M_layHinge_49 sp_360 ?_
  refine r_icmp_ge (tgt := 101) d_M_layHinge_52 (by decide) (fun hc_52 => ?_) (fun hc_52 => ?_)
  · replace H := H.1 hc_52
    exact rV_ret d_M_layHinge_101 rfl H
  · replace H := H.2 hc_52
    refine r_iload_n (i := 3) d_M_layHinge_55 rfl rfl ?_
    refine r_iload_n (i := 2) d_M_layHinge_56 rfl rfl ?_
    refine r_icmp_eq (tgt := 95) d_M_layHinge_57 (by decide) (fun hc_57 => ?_) (fun hc_57 => ?_)
    · replace H := H.1 hc_57
      refine r_iinc (v := x3 + 1) (lz := [some (.ref 0), none, some (.int x2), some (.int (x3 + 1))]) d_M_layHinge_95 rfl (by rw [ic_1]) (by decide) rfl rfl ?_
      refine r_goto (tgt := 48) d_M_layHinge_98 (by decide) ?_
      exact H
    · replace H := H.2 hc_57
      refine r_aload_n (i := 0) d_M_layHinge_60 rfl rfl ?_
      refine r_getR (b := 0) (r := 20) d_M_layHinge_61 fl_M_71 (by decide) rfl rfl rfl ?_
      refine r_iload_n (i := 3) d_M_layHinge_64 rfl rfl ?_
      obtain ⟨hi_65, H⟩ := H
      refine r_iald (b := 20) (v := hp.2.1 20 x3.toNatClampNeg) d_M_layHinge_65 (by decide) rfl hi_65 rfl ?_
      refine r_iconst d_M_layHinge_66 ic_m1 ?_
      refine r_icmp_eq (tgt := 95) d_M_layHinge_67 (by decide) (fun hc_67 => ?_) (fun hc_67 => ?_)
      · replace H := H.1 hc_67
        refine r_iinc (v := x3 + 1) (lz := [some (.ref 0), none, some (.int x2), some (.int (x3 + 1))]) d_M_layHinge_95 rfl (by rw [ic_1]) (by decide) rfl rfl ?_
        refine r_goto (tgt := 48) d_M_layHinge_98 (by decide) ?_
        exact H
      · replace H := H.2 hc_67
        refine r_aload_n (i := 0) d_M_layHinge_70 rfl rfl ?_
        refine r_dupr d_M_layHinge_71 ?_
        refine r_getI (b := 0) (v := hp.1 0 38) d_M_layHinge_72 fl_M_381 (by decide) rfl rfl rfl ?_
        refine r_iconst d_M_layHinge_75 ic_1 ?_
        refine r_iadd d_M_layHinge_76 ?_
        refine r_putI (b := 0) d_M_layHinge_77 fp_M_381 ⟨rfl, rfl⟩ (by decide) rfl rfl ?_
        refine r_aload_n (i := 0) d_M_layHinge_80 rfl rfl ?_
        refine r_dupr d_M_layHinge_81 ?_
        refine r_getI (b := 0) (v := hp.1 0 39) d_M_layHinge_82 fl_M_384 (by decide) rfl rfl rfl ?_
        refine r_aload_n (i := 0) d_M_layHinge_85 rfl rfl ?_
        refine r_getR (b := 0) (r := 20) d_M_layHinge_86 fl_M_71 (by decide) rfl rfl rfl ?_
        refine r_iload_n (i := 3) d_M_layHinge_89 rfl rfl ?_
        refine r_iald (b := 20) (v := hp.2.1 20 x3.toNatClampNeg) d_M_layHinge_90 (by decide) rfl hi_65 rfl ?_
        refine r_iadd d_M_layHinge_91 ?_
        refine r_putI (b := 0) d_M_layHinge_92 fp_M_384 ⟨rfl, rfl⟩ (by decide) rfl rfl ?_
        refine r_iinc (v := x3 + 1) (lz := [some (.ref 0), none, some (.int x2), some (.int (x3 + 1))]) d_M_layHinge_95 rfl (by rw [ic_1]) (by decide) rfl rfl ?_
        refine r_goto (tgt := 48) d_M_layHinge_98 (by decide) ?_
        exact H
set_option maxHeartbeats 4000000 in
set_option maxRecDepth 20000 in
theorem w_M_hinge {G : rx_Gh} {hp : rx_Hp} {F : Int32 → rx_Hp → Prop} (a1 : Int32) (a2 : Int32) (a3 : Int32) (H : ((f_M_in a1 1 180) = 0 → F (-1) hp) ∧ (¬ (f_M_in a1 1 180) = 0 → ((f_M_in a2 1 (a1 - 1)) = 0 → F (-1) hp) ∧ (¬ (f_M_in a2 1 (a1 - 1)) = 0 → ((f_M_in a3 0 1) = 0 → F (-1) hp) ∧ (¬ (f_M_in a3 0 1) = 0 → Ev wM G 3 q_M_layHinge [.ref 0, .int a1, .int a2] hp (rV fun h1 => F ((if a3 = 0 then (h1.1 0 38) else (h1.1 0 39)) : Int32) h1))))) : Ev wM G 4 q_M_hinge [.ref 0, .int a1, .int a2, .int a3] hp (rI F) := by
  refine ev_of rfl (Nat.le_of_ble_eq_true rfl) rfl ?_
  show Rn wM G 4 q_M_hinge 0 [some (.ref 0), some (.int a1), some (.int a2), some (.int a3)] [] hp (rI F)
  refine r_iload_n (i := 1) d_M_hinge_0 rfl rfl ?_
  refine r_iconst d_M_hinge_1 ic_1 ?_
  refine r_sipush d_M_hinge_2 sp_180 ?_
  refine rk_SI (d' := 1) [.int a1, .int 1, .int 180] [] d_M_hinge_5 ml_M_198 rfl rfl (by decide) (Nat.le_of_ble_eq_true rfl) (s_M_in a1 1 180 ?_)
  refine r_if_eq (tgt := 31) d_M_hinge_8 (by decide) (fun hc_8 => ?_) (fun hc_8 => ?_)
  · replace H := H.1 hc_8
    refine r_iconst d_M_hinge_31 ic_m1 ?_
    exact rI_ret d_M_hinge_32 rfl H
  · replace H := H.2 hc_8
    refine r_iload_n (i := 2) d_M_hinge_11 rfl rfl ?_
    refine r_iconst d_M_hinge_12 ic_1 ?_
    refine r_iload_n (i := 1) d_M_hinge_13 rfl rfl ?_
    refine r_iconst d_M_hinge_14 ic_1 ?_
    refine r_isub d_M_hinge_15 ?_
    refine rk_SI (d' := 1) [.int a2, .int 1, .int (a1 - 1)] [] d_M_hinge_16 ml_M_198 rfl rfl (by decide) (Nat.le_of_ble_eq_true rfl) (s_M_in a2 1 (a1 - 1) ?_)
    refine r_if_eq (tgt := 31) d_M_hinge_19 (by decide) (fun hc_19 => ?_) (fun hc_19 => ?_)
    · replace H := H.1 hc_19
      refine r_iconst d_M_hinge_31 ic_m1 ?_
      exact rI_ret d_M_hinge_32 rfl H
    · replace H := H.2 hc_19
      refine r_iload_n (i := 3) d_M_hinge_22 rfl rfl ?_
      refine r_iconst d_M_hinge_23 ic_0 ?_
      refine r_iconst d_M_hinge_24 ic_1 ?_
      refine rk_SI (d' := 1) [.int a3, .int 0, .int 1] [] d_M_hinge_25 ml_M_198 rfl rfl (by decide) (Nat.le_of_ble_eq_true rfl) (s_M_in a3 0 1 ?_)
      refine r_if_ne (tgt := 33) d_M_hinge_28 (by decide) (fun hc_28 => ?_) (fun hc_28 => ?_)
      · replace H := H.2 hc_28
        refine r_aload_n (i := 0) d_M_hinge_33 rfl rfl ?_
        refine r_iload_n (i := 1) d_M_hinge_34 rfl rfl ?_
        refine r_iload_n (i := 2) d_M_hinge_35 rfl rfl ?_
        refine rc_VV (b := 0) (d' := 3) [.int a1, .int a2] [] d_M_hinge_36 ml_M_387 rfl rfl (by decide) (by decide) rfl rfl (Nat.le_of_ble_eq_true rfl) H ?_
        intro h1 H
        have J40 : ∀ (v40_0 : Int32), v40_0 = ((if a3 = 0 then (h1.1 0 38) else (h1.1 0 39)) : Int32) → Rn wM G 4 q_M_hinge 54 [some (.ref 0), some (.int a1), some (.int a2), some (.int a3)] [.int v40_0] h1 (rI F) := by
          rintro _ rfl
          exact rI_ret d_M_hinge_54 rfl H
        refine r_iload_n (i := 3) d_M_hinge_39 rfl rfl ?_
        refine r_if_ne (tgt := 50) d_M_hinge_40 (by decide) (fun hc_40 => ?_) (fun hc_40 => ?_)
        · refine r_aload_n (i := 0) d_M_hinge_50 rfl rfl ?_
          refine r_getI (b := 0) (v := h1.1 0 39) d_M_hinge_51 fl_M_384 (by decide) rfl rfl rfl ?_
          exact J40 _ (((if_neg hc_40).trans rfl)).symm
        · refine r_aload_n (i := 0) d_M_hinge_43 rfl rfl ?_
          refine r_getI (b := 0) (v := h1.1 0 38) d_M_hinge_44 fl_M_381 (by decide) rfl rfl rfl ?_
          refine r_goto (tgt := 54) d_M_hinge_47 (by decide) ?_
          exact J40 _ (((if_pos hc_40).trans rfl)).symm
      · replace H := H.1 hc_28
        refine r_iconst d_M_hinge_31 ic_m1 ?_
        exact rI_ret d_M_hinge_32 rfl H
set_option maxHeartbeats 4000000 in
set_option maxRecDepth 20000 in
theorem w_M_doSee {G : rx_Gh} {hp : rx_Hp} {F : Int32 → rx_Hp → Prop} (a1 : Int32) (a2 : Int32) (H : Rn wM G 4 q_M_doSee 2 [some (.ref 0), some (.int a1), some (.int a2), some (.int 1)] [] hp (rI F)) : Ev wM G 4 q_M_doSee [.ref 0, .int a1, .int a2] hp (rI F) := by
  refine ev_of rfl (Nat.le_of_ble_eq_true rfl) rfl ?_
  show Rn wM G 4 q_M_doSee 0 [some (.ref 0), some (.int a1), some (.int a2), none] [] hp (rI F)
  refine r_iconst d_M_doSee_0 ic_1 ?_
  refine r_istore_n (i := 3) (lz := [some (.ref 0), some (.int a1), some (.int a2), some (.int 1)]) d_M_doSee_1 rfl (by decide) rfl rfl ?_
  exact H
set_option maxHeartbeats 4000000 in
set_option maxRecDepth 20000 in
theorem w_M_doSee_2 {G : rx_Gh} {hp : rx_Hp} {F : Int32 → rx_Hp → Prop} (x1 : Int32) (x2 : Int32) (x3 : Int32) (H : (x1 ≤ x3 → F 0 hp) ∧ (¬ x1 ≤ x3 → Ev wM G 3 q_M_layHinge [.ref 0, .int x1, .int x3] hp (rV fun h1 => ((h1.1 0 38) = x2 → F 1 h1) ∧ (¬ (h1.1 0 38) = x2 → Rn wM G 4 q_M_doSee 2 [some (.ref 0), some (.int x1), some (.int x2), some (.int (x3 + 1))] [] h1 (rI F))))) : Rn wM G 4 q_M_doSee 2 [some (.ref 0), some (.int x1), some (.int x2), some (.int x3)] [] hp (rI F) := by
  refine r_iload_n (i := 3) d_M_doSee_2 rfl rfl ?_
  refine r_iload_n (i := 1) d_M_doSee_3 rfl rfl ?_
  refine r_icmp_ge (tgt := 29) d_M_doSee_4 (by decide) (fun hc_4 => ?_) (fun hc_4 => ?_)
  · replace H := H.1 hc_4
    refine r_iconst d_M_doSee_29 ic_0 ?_
    exact rZ_ret d_M_doSee_30 rfl (Or.inl rfl) H
  · replace H := H.2 hc_4
    refine r_aload_n (i := 0) d_M_doSee_7 rfl rfl ?_
    refine r_iload_n (i := 1) d_M_doSee_8 rfl rfl ?_
    refine r_iload_n (i := 3) d_M_doSee_9 rfl rfl ?_
    refine rc_VV (b := 0) (d' := 3) [.int x1, .int x3] [] d_M_doSee_10 ml_M_387 rfl rfl (by decide) (by decide) rfl rfl (Nat.le_of_ble_eq_true rfl) H ?_
    intro h1 H
    refine r_aload_n (i := 0) d_M_doSee_13 rfl rfl ?_
    refine r_getI (b := 0) (v := h1.1 0 38) d_M_doSee_14 fl_M_381 (by decide) rfl rfl rfl ?_
    refine r_iload_n (i := 2) d_M_doSee_17 rfl rfl ?_
    refine r_icmp_ne (tgt := 23) d_M_doSee_18 (by decide) (fun hc_18 => ?_) (fun hc_18 => ?_)
    · replace H := H.2 hc_18
      refine r_iinc (v := x3 + 1) (lz := [some (.ref 0), some (.int x1), some (.int x2), some (.int (x3 + 1))]) d_M_doSee_23 rfl (by rw [ic_1]) (by decide) rfl rfl ?_
      refine r_goto (tgt := 2) d_M_doSee_26 (by decide) ?_
      exact H
    · replace H := H.1 hc_18
      refine r_iconst d_M_doSee_21 ic_1 ?_
      exact rZ_ret d_M_doSee_22 rfl (Or.inr rfl) H
set_option maxHeartbeats 4000000 in
set_option maxRecDepth 20000 in
theorem w_M_angles {G : rx_Gh} {hp : rx_Hp} {F : Int32 → rx_Hp → Prop} (a1 : Int32) (a2 : Int32) (H : ((-1) ≤ a2 → Rn wM G 5 q_M_angles 12 [some (.ref 0), some (.int a1), some (.int a2), some (.int 0), some (.int 1)] [] hp (rI F)) ∧ (¬ (-1) ≤ a2 → F (-1) hp)) : Ev wM G 5 q_M_angles [.ref 0, .int a1, .int a2] hp (rI F) := by
  refine ev_of rfl (Nat.le_of_ble_eq_true rfl) rfl ?_
  show Rn wM G 5 q_M_angles 0 [some (.ref 0), some (.int a1), some (.int a2), none, none] [] hp (rI F)
  refine r_iload_n (i := 2) d_M_angles_0 rfl rfl ?_
  refine r_iconst d_M_angles_1 ic_m1 ?_
  refine r_icmp_ge (tgt := 7) d_M_angles_2 (by decide) (fun hc_2 => ?_) (fun hc_2 => ?_)
  · replace H := H.1 hc_2
    refine r_iconst d_M_angles_7 ic_0 ?_
    refine r_istore_n (i := 3) (lz := [some (.ref 0), some (.int a1), some (.int a2), some (.int 0), none]) d_M_angles_8 rfl (by decide) rfl rfl ?_
    refine r_iconst d_M_angles_9 ic_1 ?_
    refine r_istore (lz := [some (.ref 0), some (.int a1), some (.int a2), some (.int 0), some (.int 1)]) d_M_angles_10 (by decide) rfl rfl ?_
    exact H
  · replace H := H.2 hc_2
    refine r_iconst d_M_angles_5 ic_m1 ?_
    exact rI_ret d_M_angles_6 rfl H
set_option maxHeartbeats 4000000 in
set_option maxRecDepth 20000 in
theorem w_M_angles_12 {G : rx_Gh} {hp : rx_Hp} {F : Int32 → rx_Hp → Prop} (x1 : Int32) (x2 : Int32) (x3 : Int32) (x4 : Int32) (H : (180 < x4 → F ((if x2 = (-1) then x3 else (-1)) : Int32) hp) ∧ (¬ 180 < x4 → Ev wM G 4 q_M_doSee [.ref 0, .int x4, .int x1] hp (rI fun r2 h1 => (r2 = 0 → Rn wM G 5 q_M_angles 12 [some (.ref 0), some (.int x1), some (.int x2), some (.int x3), some (.int (x4 + 1))] [] h1 (rI F)) ∧ (¬ r2 = 0 → (x3 = x2 → F x4 h1) ∧ (¬ x3 = x2 → Rn wM G 5 q_M_angles 12 [some (.ref 0), some (.int x1), some (.int x2), some (.int (x3 + 1)), some (.int (x4 + 1))] [] h1 (rI F)))))) : Rn wM G 5 q_M_angles 12 [some (.ref 0), some (.int x1), some (.int x2), some (.int x3), some (.int x4)] [] hp (rI F) := by
  refine r_iload d_M_angles_12 rfl ?_
  refine r_sipush d_M_angles_14 sp_180 ?_
  refine r_icmp_gt (tgt := 47) d_M_angles_17 (by decide) (fun hc_17 => ?_) (fun hc_17 => ?_)
  · replace H := H.1 hc_17
    have J49 : ∀ (v49_0 : Int32), v49_0 = ((if x2 = (-1) then x3 else (-1)) : Int32) → Rn wM G 5 q_M_angles 57 [some (.ref 0), some (.int x1), some (.int x2), some (.int x3), some (.int x4)] [.int v49_0] hp (rI F) := by
      rintro _ rfl
      exact rI_ret d_M_angles_57 rfl H
    refine r_iload_n (i := 2) d_M_angles_47 rfl rfl ?_
    refine r_iconst d_M_angles_48 ic_m1 ?_
    refine r_icmp_ne (tgt := 56) d_M_angles_49 (by decide) (fun hc_49 => ?_) (fun hc_49 => ?_)
    · refine r_iconst d_M_angles_56 ic_m1 ?_
      exact J49 _ (((if_neg hc_49).trans rfl)).symm
    · refine r_iload_n (i := 3) d_M_angles_52 rfl rfl ?_
      refine r_goto (tgt := 57) d_M_angles_53 (by decide) ?_
      exact J49 _ (((if_pos hc_49).trans rfl)).symm
  · replace H := H.2 hc_17
    refine r_aload_n (i := 0) d_M_angles_20 rfl rfl ?_
    refine r_iload d_M_angles_21 rfl ?_
    refine r_iload_n (i := 1) d_M_angles_23 rfl rfl ?_
    refine rc_VI (b := 0) (d' := 4) [.int x4, .int x1] [] d_M_angles_24 ml_M_390 rfl rfl (by decide) (by decide) rfl rfl (Nat.le_of_ble_eq_true rfl) H ?_
    intro r2 h1 H
    refine r_if_eq (tgt := 41) d_M_angles_27 (by decide) (fun hc_27 => ?_) (fun hc_27 => ?_)
    · replace H := H.1 hc_27
      refine r_iinc (v := x4 + 1) (lz := [some (.ref 0), some (.int x1), some (.int x2), some (.int x3), some (.int (x4 + 1))]) d_M_angles_41 rfl (by rw [ic_1]) (by decide) rfl rfl ?_
      refine r_goto (tgt := 12) d_M_angles_44 (by decide) ?_
      exact H
    · replace H := H.2 hc_27
      refine r_iload_n (i := 3) d_M_angles_30 rfl rfl ?_
      refine r_iload_n (i := 2) d_M_angles_31 rfl rfl ?_
      refine r_icmp_ne (tgt := 38) d_M_angles_32 (by decide) (fun hc_32 => ?_) (fun hc_32 => ?_)
      · replace H := H.2 hc_32
        refine r_iinc (v := x3 + 1) (lz := [some (.ref 0), some (.int x1), some (.int x2), some (.int (x3 + 1)), some (.int x4)]) d_M_angles_38 rfl (by rw [ic_1]) (by decide) rfl rfl ?_
        refine r_iinc (v := x4 + 1) (lz := [some (.ref 0), some (.int x1), some (.int x2), some (.int (x3 + 1)), some (.int (x4 + 1))]) d_M_angles_41 rfl (by rw [ic_1]) (by decide) rfl rfl ?_
        refine r_goto (tgt := 12) d_M_angles_44 (by decide) ?_
        exact H
      · replace H := H.1 hc_32
        refine r_iload d_M_angles_35 rfl ?_
        exact rI_ret d_M_angles_37 rfl H
set_option maxHeartbeats 4000000 in
set_option maxRecDepth 20000 in
theorem w_GR_feed {G : rx_Gh} {hp : rx_Hp} {F : Int32 → rx_Hp → Prop} (a1 : Int32) (a2 : Int32) (a3 : Int32) (a4 : Int32) (a5 : Int32) (H : Ev wC G 1 q_Ta_signsIn [.int a1] hp (rI fun r2 h1 => Ev wC G 1 q_Ta_signsIn [.int a2] h1 (rI fun r4 h3 => Ev wC G 1 q_Ta_signsIn [.int a3] h3 (rI fun r6 h5 => Ev wC G 1 q_Ta_signsIn [.int a4] h5 (rI fun r8 h7 => Ev wC G 1 q_Ta_signsIn [.int a5] h7 (rI fun r10 h9 => (((h9.1 1 1) + ((((r2 + r4) + r6) + r8) + r10)) ≤ 160 → Ev wC G 1 q_Ta_add [.ref 1, .int a1] h9 (rV fun h11 => Ev wC G 1 q_Ta_add [.ref 1, .int a2] h11 (rV fun h12 => Ev wC G 1 q_Ta_add [.ref 1, .int a3] h12 (rV fun h13 => Ev wC G 1 q_Ta_add [.ref 1, .int a4] h13 (rV fun h14 => Ev wC G 1 q_Ta_add [.ref 1, .int a5] h14 (rV fun h15 => F (h15.1 1 1) h15)))))) ∧ (¬ ((h9.1 1 1) + ((((r2 + r4) + r6) + r8) + r10)) ≤ 160 → F (-1) h9))))))) : Ev wC G 2 q_GR_feed [.ref 0, .int a1, .int a2, .int a3, .int a4, .int a5] hp (rI F) := by
  refine ev_of rfl (Nat.le_of_ble_eq_true rfl) rfl ?_
  show Rn wC G 2 q_GR_feed 0 [some (.ref 0), some (.int a1), some (.int a2), some (.int a3), some (.int a4), some (.int a5), none] [] hp (rI F)
  refine r_iload_n (i := 1) d_GR_feed_0 rfl rfl ?_
  refine rc_SI (d' := 1) [.int a1] [] d_GR_feed_1 ml_GR_111 rfl rfl (by decide) (Nat.le_of_ble_eq_true rfl) H ?_
  intro r2 h1 H
  refine r_iload_n (i := 2) d_GR_feed_4 rfl rfl ?_
  refine rc_SI (d' := 1) [.int a2] [.int r2] d_GR_feed_5 ml_GR_111 rfl rfl (by decide) (Nat.le_of_ble_eq_true rfl) H ?_
  intro r4 h3 H
  refine r_iadd d_GR_feed_8 ?_
  refine r_iload_n (i := 3) d_GR_feed_9 rfl rfl ?_
  refine rc_SI (d' := 1) [.int a3] [.int (r2 + r4)] d_GR_feed_10 ml_GR_111 rfl rfl (by decide) (Nat.le_of_ble_eq_true rfl) H ?_
  intro r6 h5 H
  refine r_iadd d_GR_feed_13 ?_
  refine r_iload d_GR_feed_14 rfl ?_
  refine rc_SI (d' := 1) [.int a4] [.int ((r2 + r4) + r6)] d_GR_feed_16 ml_GR_111 rfl rfl (by decide) (Nat.le_of_ble_eq_true rfl) H ?_
  intro r8 h7 H
  refine r_iadd d_GR_feed_19 ?_
  refine r_iload d_GR_feed_20 rfl ?_
  refine rc_SI (d' := 1) [.int a5] [.int (((r2 + r4) + r6) + r8)] d_GR_feed_22 ml_GR_111 rfl rfl (by decide) (Nat.le_of_ble_eq_true rfl) H ?_
  intro r10 h9 H
  refine r_iadd d_GR_feed_25 ?_
  refine r_istore (lz := [some (.ref 0), some (.int a1), some (.int a2), some (.int a3), some (.int a4), some (.int a5), some (.int ((((r2 + r4) + r6) + r8) + r10))]) d_GR_feed_26 (by decide) rfl rfl ?_
  refine r_aload_n (i := 0) d_GR_feed_28 rfl rfl ?_
  refine r_getR (b := 0) (r := 1) d_GR_feed_29 fl_GR_12 (by decide) rfl rfl rfl ?_
  refine r_getI (b := 1) (v := h9.1 1 1) d_GR_feed_32 fl_GR_115 (by decide) rfl rfl rfl ?_
  refine r_iload d_GR_feed_35 rfl ?_
  refine r_iadd d_GR_feed_37 ?_
  refine r_sipush d_GR_feed_38 sp_160 ?_
  refine r_icmp_le (tgt := 46) d_GR_feed_41 (by decide) (fun hc_41 => ?_) (fun hc_41 => ?_)
  · replace H := H.1 hc_41
    refine r_aload_n (i := 0) d_GR_feed_46 rfl rfl ?_
    refine r_getR (b := 0) (r := 1) d_GR_feed_47 fl_GR_12 (by decide) rfl rfl rfl ?_
    refine r_iload_n (i := 1) d_GR_feed_50 rfl rfl ?_
    refine rc_VV (b := 1) (d' := 1) [.int a1] [] d_GR_feed_51 ml_GR_118 rfl rfl (by decide) (by decide) rfl rfl (Nat.le_of_ble_eq_true rfl) H ?_
    intro h11 H
    refine r_aload_n (i := 0) d_GR_feed_54 rfl rfl ?_
    refine r_getR (b := 0) (r := 1) d_GR_feed_55 fl_GR_12 (by decide) rfl rfl rfl ?_
    refine r_iload_n (i := 2) d_GR_feed_58 rfl rfl ?_
    refine rc_VV (b := 1) (d' := 1) [.int a2] [] d_GR_feed_59 ml_GR_118 rfl rfl (by decide) (by decide) rfl rfl (Nat.le_of_ble_eq_true rfl) H ?_
    intro h12 H
    refine r_aload_n (i := 0) d_GR_feed_62 rfl rfl ?_
    refine r_getR (b := 0) (r := 1) d_GR_feed_63 fl_GR_12 (by decide) rfl rfl rfl ?_
    refine r_iload_n (i := 3) d_GR_feed_66 rfl rfl ?_
    refine rc_VV (b := 1) (d' := 1) [.int a3] [] d_GR_feed_67 ml_GR_118 rfl rfl (by decide) (by decide) rfl rfl (Nat.le_of_ble_eq_true rfl) H ?_
    intro h13 H
    refine r_aload_n (i := 0) d_GR_feed_70 rfl rfl ?_
    refine r_getR (b := 0) (r := 1) d_GR_feed_71 fl_GR_12 (by decide) rfl rfl rfl ?_
    refine r_iload d_GR_feed_74 rfl ?_
    refine rc_VV (b := 1) (d' := 1) [.int a4] [] d_GR_feed_76 ml_GR_118 rfl rfl (by decide) (by decide) rfl rfl (Nat.le_of_ble_eq_true rfl) H ?_
    intro h14 H
    refine r_aload_n (i := 0) d_GR_feed_79 rfl rfl ?_
    refine r_getR (b := 0) (r := 1) d_GR_feed_80 fl_GR_12 (by decide) rfl rfl rfl ?_
    refine r_iload d_GR_feed_83 rfl ?_
    refine rc_VV (b := 1) (d' := 1) [.int a5] [] d_GR_feed_85 ml_GR_118 rfl rfl (by decide) (by decide) rfl rfl (Nat.le_of_ble_eq_true rfl) H ?_
    intro h15 H
    refine r_aload_n (i := 0) d_GR_feed_88 rfl rfl ?_
    refine r_getR (b := 0) (r := 1) d_GR_feed_89 fl_GR_12 (by decide) rfl rfl rfl ?_
    refine r_getI (b := 1) (v := h15.1 1 1) d_GR_feed_92 fl_GR_115 (by decide) rfl rfl rfl ?_
    exact rI_ret d_GR_feed_95 rfl H
  · replace H := H.2 hc_41
    refine r_iconst d_GR_feed_44 ic_m1 ?_
    exact rI_ret d_GR_feed_45 rfl H

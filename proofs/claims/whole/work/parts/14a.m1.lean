theorem d_M_feed_0 : decode q_M_feed.2.1 0 = .ok (.iconst 0, 1) := by decide +kernel
theorem d_M_feed_1 : decode q_M_feed.2.1 1 = .ok (.istore 6, 2) := by decide +kernel
theorem d_M_feed_3 : decode q_M_feed.2.1 3 = .ok (.iconst 0, 1) := by decide +kernel
theorem d_M_feed_4 : decode q_M_feed.2.1 4 = .ok (.istore 7, 2) := by decide +kernel
theorem d_M_feed_6 : decode q_M_feed.2.1 6 = .ok (.iload 7, 2) := by decide +kernel
theorem d_M_feed_8 : decode q_M_feed.2.1 8 = .ok (.bipush 20, 2) := by decide +kernel
theorem d_M_feed_10 : decode q_M_feed.2.1 10 = .ok (.if_icmp .ge 34, 3) := by decide +kernel
theorem d_M_feed_13 : decode q_M_feed.2.1 13 = .ok (.iload 6, 2) := by decide +kernel
theorem d_M_feed_15 : decode q_M_feed.2.1 15 = .ok (.iload_n 1, 1) := by decide +kernel
theorem d_M_feed_16 : decode q_M_feed.2.1 16 = .ok (.iload_n 2, 1) := by decide +kernel
theorem d_M_feed_17 : decode q_M_feed.2.1 17 = .ok (.iload_n 3, 1) := by decide +kernel
theorem d_M_feed_18 : decode q_M_feed.2.1 18 = .ok (.iload 4, 2) := by decide +kernel
theorem d_M_feed_20 : decode q_M_feed.2.1 20 = .ok (.iload 5, 2) := by decide +kernel
theorem d_M_feed_22 : decode q_M_feed.2.1 22 = .ok (.iload 7, 2) := by decide +kernel
theorem d_M_feed_24 : decode q_M_feed.2.1 24 = .ok (.invokestatic 86, 3) := by decide +kernel
theorem ml_M_86 : rx_CS "GlassRoomModel" 86 q_M_byteOf 6 := ⟨⟨(rx_s6 3 rfl rfl), (rx_s6 4 rfl rfl)⟩, ⟨(rx_s1 13 rfl rfl), q_M_byteOf_k, ⟨by decide, by decide, by decide +kernel⟩, by decide⟩⟩
theorem d_M_feed_27 : decode q_M_feed.2.1 27 = .ok (.ifCond .eq 7, 3) := by decide +kernel
theorem d_M_feed_34 : decode q_M_feed.2.1 34 = .ok (.iconst 0, 1) := by decide +kernel
theorem d_M_feed_35 : decode q_M_feed.2.1 35 = .ok (.iadd, 1) := by decide +kernel
theorem d_M_feed_36 : decode q_M_feed.2.1 36 = .ok (.istore 6, 2) := by decide +kernel
theorem d_M_feed_38 : decode q_M_feed.2.1 38 = .ok (.iinc 7 1, 3) := by decide +kernel
theorem d_M_feed_41 : decode q_M_feed.2.1 41 = .ok (.goto (-35), 3) := by decide +kernel
theorem d_M_feed_44 : decode q_M_feed.2.1 44 = .ok (.aload_n 0, 1) := by decide +kernel
theorem d_M_feed_45 : decode q_M_feed.2.1 45 = .ok (.getfield 90, 3) := by decide +kernel
theorem d_M_feed_48 : decode q_M_feed.2.1 48 = .ok (.iload 6, 2) := by decide +kernel
theorem d_M_feed_50 : decode q_M_feed.2.1 50 = .ok (.iadd, 1) := by decide +kernel
theorem d_M_feed_51 : decode q_M_feed.2.1 51 = .ok (.sipush 160, 3) := by decide +kernel
theorem sp_160 : (Int16.ofInt (160)).toInt32 = (160 : Int32) := by decide
theorem d_M_feed_54 : decode q_M_feed.2.1 54 = .ok (.if_icmp .le 5, 3) := by decide +kernel
theorem d_M_feed_59 : decode q_M_feed.2.1 59 = .ok (.iconst 0, 1) := by decide +kernel
theorem d_M_feed_60 : decode q_M_feed.2.1 60 = .ok (.istore 7, 2) := by decide +kernel
theorem d_M_feed_57 : decode q_M_feed.2.1 57 = .ok (.iconst (-1), 1) := by decide +kernel
theorem d_M_feed_58 : decode q_M_feed.2.1 58 = .ok (.ireturn, 1) := by decide +kernel
theorem d_M_feed_30 : decode q_M_feed.2.1 30 = .ok (.iconst 1, 1) := by decide +kernel
theorem d_M_feed_31 : decode q_M_feed.2.1 31 = .ok (.goto 4, 3) := by decide +kernel
theorem d_M_feed_62 : decode q_M_feed.2.1 62 = .ok (.iload 7, 2) := by decide +kernel
theorem d_M_feed_64 : decode q_M_feed.2.1 64 = .ok (.bipush 20, 2) := by decide +kernel
theorem d_M_feed_66 : decode q_M_feed.2.1 66 = .ok (.if_icmp .ge 49, 3) := by decide +kernel
theorem d_M_feed_69 : decode q_M_feed.2.1 69 = .ok (.iload_n 1, 1) := by decide +kernel
theorem d_M_feed_70 : decode q_M_feed.2.1 70 = .ok (.iload_n 2, 1) := by decide +kernel
theorem d_M_feed_71 : decode q_M_feed.2.1 71 = .ok (.iload_n 3, 1) := by decide +kernel
theorem d_M_feed_72 : decode q_M_feed.2.1 72 = .ok (.iload 4, 2) := by decide +kernel
theorem d_M_feed_74 : decode q_M_feed.2.1 74 = .ok (.iload 5, 2) := by decide +kernel
theorem d_M_feed_76 : decode q_M_feed.2.1 76 = .ok (.iload 7, 2) := by decide +kernel
theorem d_M_feed_78 : decode q_M_feed.2.1 78 = .ok (.invokestatic 86, 3) := by decide +kernel
theorem d_M_feed_81 : decode q_M_feed.2.1 81 = .ok (.istore 8, 2) := by decide +kernel
theorem d_M_feed_83 : decode q_M_feed.2.1 83 = .ok (.iload 8, 2) := by decide +kernel
theorem d_M_feed_85 : decode q_M_feed.2.1 85 = .ok (.ifCond .eq 24, 3) := by decide +kernel
theorem d_M_feed_109 : decode q_M_feed.2.1 109 = .ok (.iinc 7 1, 3) := by decide +kernel
theorem d_M_feed_112 : decode q_M_feed.2.1 112 = .ok (.goto (-50), 3) := by decide +kernel
theorem d_M_feed_115 : decode q_M_feed.2.1 115 = .ok (.aload_n 0, 1) := by decide +kernel
theorem d_M_feed_116 : decode q_M_feed.2.1 116 = .ok (.getfield 90, 3) := by decide +kernel
theorem d_M_feed_119 : decode q_M_feed.2.1 119 = .ok (.ireturn, 1) := by decide +kernel
theorem d_M_feed_88 : decode q_M_feed.2.1 88 = .ok (.aload_n 0, 1) := by decide +kernel
theorem d_M_feed_89 : decode q_M_feed.2.1 89 = .ok (.getfield 9, 3) := by decide +kernel
theorem d_M_feed_92 : decode q_M_feed.2.1 92 = .ok (.aload_n 0, 1) := by decide +kernel
theorem d_M_feed_93 : decode q_M_feed.2.1 93 = .ok (.getfield 90, 3) := by decide +kernel
theorem d_M_feed_96 : decode q_M_feed.2.1 96 = .ok (.iload 8, 2) := by decide +kernel
theorem d_M_feed_98 : decode q_M_feed.2.1 98 = .ok (.iastore, 1) := by decide +kernel
theorem d_M_feed_99 : decode q_M_feed.2.1 99 = .ok (.aload_n 0, 1) := by decide +kernel
theorem d_M_feed_100 : decode q_M_feed.2.1 100 = .ok (.dup, 1) := by decide +kernel
theorem d_M_feed_101 : decode q_M_feed.2.1 101 = .ok (.getfield 90, 3) := by decide +kernel
theorem d_M_feed_104 : decode q_M_feed.2.1 104 = .ok (.iconst 1, 1) := by decide +kernel
theorem d_M_feed_105 : decode q_M_feed.2.1 105 = .ok (.iadd, 1) := by decide +kernel
theorem d_M_feed_106 : decode q_M_feed.2.1 106 = .ok (.putfield 90, 3) := by decide +kernel
theorem d_M_look_0 : decode q_M_look.2.1 0 = .ok (.aload_n 0, 1) := by decide +kernel
theorem d_M_look_1 : decode q_M_look.2.1 1 = .ok (.invokevirtual 96, 3) := by decide +kernel
theorem ml_M_96 : rx_CV "GlassRoomModel" 96 q_M_here 0 := ⟨⟨(rx_s6 25 rfl rfl), (rx_s6 27 rfl rfl), (rx_s0 25 rfl rfl)⟩, ⟨(rx_s1 13 rfl rfl), q_M_here_k, ⟨by decide, by decide, by decide +kernel⟩, by decide⟩⟩
theorem d_M_look_4 : decode q_M_look.2.1 4 = .ok (.bipush 32, 2) := by decide +kernel
theorem bp_32 : (Int8.ofInt (32)).toInt32 = (32 : Int32) := by decide
theorem d_M_look_6 : decode q_M_look.2.1 6 = .ok (.if_icmp .ne 16, 3) := by decide +kernel
theorem d_M_look_9 : decode q_M_look.2.1 9 = .ok (.aload_n 0, 1) := by decide +kernel
theorem d_M_look_10 : decode q_M_look.2.1 10 = .ok (.dup, 1) := by decide +kernel
theorem d_M_look_11 : decode q_M_look.2.1 11 = .ok (.getfield 93, 3) := by decide +kernel
theorem d_M_look_14 : decode q_M_look.2.1 14 = .ok (.iconst 1, 1) := by decide +kernel
theorem d_M_look_15 : decode q_M_look.2.1 15 = .ok (.iadd, 1) := by decide +kernel
theorem d_M_look_16 : decode q_M_look.2.1 16 = .ok (.putfield 93, 3) := by decide +kernel
theorem d_M_look_19 : decode q_M_look.2.1 19 = .ok (.goto (-19), 3) := by decide +kernel
theorem d_M_look_22 : decode q_M_look.2.1 22 = .ok (.aload_n 0, 1) := by decide +kernel
theorem d_M_look_23 : decode q_M_look.2.1 23 = .ok (.invokevirtual 96, 3) := by decide +kernel
theorem d_M_look_26 : decode q_M_look.2.1 26 = .ok (.ireturn, 1) := by decide +kernel
theorem d_M_plainNumber_0 : decode q_M_plainNumber.2.1 0 = .ok (.iconst 0, 1) := by decide +kernel
theorem d_M_plainNumber_1 : decode q_M_plainNumber.2.1 1 = .ok (.istore_n 1, 1) := by decide +kernel
theorem d_M_plainNumber_2 : decode q_M_plainNumber.2.1 2 = .ok (.iconst 0, 1) := by decide +kernel
theorem d_M_plainNumber_3 : decode q_M_plainNumber.2.1 3 = .ok (.istore_n 2, 1) := by decide +kernel
theorem d_M_plainNumber_4 : decode q_M_plainNumber.2.1 4 = .ok (.iload_n 2, 1) := by decide +kernel
theorem d_M_plainNumber_5 : decode q_M_plainNumber.2.1 5 = .ok (.iconst 4, 1) := by decide +kernel
theorem d_M_plainNumber_6 : decode q_M_plainNumber.2.1 6 = .ok (.if_icmp .ge 42, 3) := by decide +kernel
theorem d_M_plainNumber_9 : decode q_M_plainNumber.2.1 9 = .ok (.aload_n 0, 1) := by decide +kernel
theorem d_M_plainNumber_48 : decode q_M_plainNumber.2.1 48 = .ok (.aload_n 0, 1) := by decide +kernel
theorem d_M_plainNumber_49 : decode q_M_plainNumber.2.1 49 = .ok (.invokevirtual 96, 3) := by decide +kernel
theorem d_M_plainNumber_52 : decode q_M_plainNumber.2.1 52 = .ok (.invokestatic 115, 3) := by decide +kernel
theorem ml_M_115 : rx_CS "GlassRoomModel" 115 q_M_isDigit 1 := ⟨⟨(rx_s6 46 rfl rfl), (rx_s6 47 rfl rfl)⟩, ⟨(rx_s1 13 rfl rfl), q_M_isDigit_k, ⟨by decide, by decide, by decide +kernel⟩, by decide⟩⟩
theorem d_M_plainNumber_55 : decode q_M_plainNumber.2.1 55 = .ok (.ifCond .eq 7, 3) := by decide +kernel
theorem d_M_plainNumber_58 : decode q_M_plainNumber.2.1 58 = .ok (.aload_n 0, 1) := by decide +kernel
theorem d_M_plainNumber_62 : decode q_M_plainNumber.2.1 62 = .ok (.iload_n 1, 1) := by decide +kernel
theorem d_M_plainNumber_63 : decode q_M_plainNumber.2.1 63 = .ok (.ireturn, 1) := by decide +kernel
theorem d_M_plainNumber_59 : decode q_M_plainNumber.2.1 59 = .ok (.invokevirtual 109, 3) := by decide +kernel
theorem d_M_plainNumber_10 : decode q_M_plainNumber.2.1 10 = .ok (.invokevirtual 96, 3) := by decide +kernel
theorem d_M_plainNumber_13 : decode q_M_plainNumber.2.1 13 = .ok (.invokestatic 115, 3) := by decide +kernel
theorem d_M_plainNumber_16 : decode q_M_plainNumber.2.1 16 = .ok (.ifCond .eq 32, 3) := by decide +kernel
theorem d_M_plainNumber_19 : decode q_M_plainNumber.2.1 19 = .ok (.bipush 10, 2) := by decide +kernel
theorem d_M_plainNumber_21 : decode q_M_plainNumber.2.1 21 = .ok (.iload_n 1, 1) := by decide +kernel
theorem d_M_plainNumber_22 : decode q_M_plainNumber.2.1 22 = .ok (.imul, 1) := by decide +kernel
theorem d_M_plainNumber_23 : decode q_M_plainNumber.2.1 23 = .ok (.aload_n 0, 1) := by decide +kernel
theorem d_M_plainNumber_24 : decode q_M_plainNumber.2.1 24 = .ok (.invokevirtual 96, 3) := by decide +kernel
theorem d_M_plainNumber_27 : decode q_M_plainNumber.2.1 27 = .ok (.iadd, 1) := by decide +kernel
theorem d_M_plainNumber_28 : decode q_M_plainNumber.2.1 28 = .ok (.bipush 48, 2) := by decide +kernel
theorem d_M_plainNumber_30 : decode q_M_plainNumber.2.1 30 = .ok (.isub, 1) := by decide +kernel
theorem d_M_plainNumber_31 : decode q_M_plainNumber.2.1 31 = .ok (.istore_n 1, 1) := by decide +kernel
theorem d_M_plainNumber_32 : decode q_M_plainNumber.2.1 32 = .ok (.aload_n 0, 1) := by decide +kernel
theorem d_M_plainNumber_33 : decode q_M_plainNumber.2.1 33 = .ok (.dup, 1) := by decide +kernel
theorem d_M_plainNumber_34 : decode q_M_plainNumber.2.1 34 = .ok (.getfield 93, 3) := by decide +kernel
theorem d_M_plainNumber_37 : decode q_M_plainNumber.2.1 37 = .ok (.iconst 1, 1) := by decide +kernel
theorem d_M_plainNumber_38 : decode q_M_plainNumber.2.1 38 = .ok (.iadd, 1) := by decide +kernel
theorem d_M_plainNumber_39 : decode q_M_plainNumber.2.1 39 = .ok (.putfield 93, 3) := by decide +kernel
theorem d_M_plainNumber_42 : decode q_M_plainNumber.2.1 42 = .ok (.iinc 2 1, 3) := by decide +kernel
theorem d_M_plainNumber_45 : decode q_M_plainNumber.2.1 45 = .ok (.goto (-41), 3) := by decide +kernel
theorem d_M_areInside_0 : decode q_M_areInside.2.1 0 = .ok (.aload_n 0, 1) := by decide +kernel
theorem d_M_areInside_1 : decode q_M_areInside.2.1 1 = .ok (.getfield 219, 3) := by decide +kernel
theorem fl_M_219 : rx_F "GlassRoomModel" 219 12 19 := ⟨(RX12, TX12, 45), rfl, by decide, (rx_s5 118 rfl rfl), rx_T12⟩
theorem d_M_areInside_4 : decode q_M_areInside.2.1 4 = .ok (.ifCond .le 7, 3) := by decide +kernel
theorem d_M_areInside_11 : decode q_M_areInside.2.1 11 = .ok (.iconst 0, 1) := by decide +kernel
theorem d_M_areInside_7 : decode q_M_areInside.2.1 7 = .ok (.iconst 1, 1) := by decide +kernel
theorem d_M_areInside_8 : decode q_M_areInside.2.1 8 = .ok (.goto 4, 3) := by decide +kernel
theorem d_M_areInside_12 : decode q_M_areInside.2.1 12 = .ok (.istore_n 1, 1) := by decide +kernel
theorem d_M_areInside_13 : decode q_M_areInside.2.1 13 = .ok (.iconst 0, 1) := by decide +kernel
theorem d_M_areInside_14 : decode q_M_areInside.2.1 14 = .ok (.istore_n 2, 1) := by decide +kernel
theorem d_M_areInside_15 : decode q_M_areInside.2.1 15 = .ok (.iload_n 2, 1) := by decide +kernel
theorem d_M_areInside_16 : decode q_M_areInside.2.1 16 = .ok (.aload_n 0, 1) := by decide +kernel
theorem d_M_areInside_17 : decode q_M_areInside.2.1 17 = .ok (.getfield 219, 3) := by decide +kernel
theorem d_M_areInside_20 : decode q_M_areInside.2.1 20 = .ok (.if_icmp .ge 55, 3) := by decide +kernel
theorem d_M_areInside_23 : decode q_M_areInside.2.1 23 = .ok (.iload_n 1, 1) := by decide +kernel
theorem d_M_areInside_24 : decode q_M_areInside.2.1 24 = .ok (.ifCond .eq 43, 3) := by decide +kernel
theorem d_M_areInside_67 : decode q_M_areInside.2.1 67 = .ok (.iconst 0, 1) := by decide +kernel
theorem d_M_areInside_68 : decode q_M_areInside.2.1 68 = .ok (.istore_n 1, 1) := by decide +kernel
theorem d_M_areInside_69 : decode q_M_areInside.2.1 69 = .ok (.iinc 2 1, 3) := by decide +kernel
theorem d_M_areInside_72 : decode q_M_areInside.2.1 72 = .ok (.goto (-57), 3) := by decide +kernel
theorem d_M_areInside_75 : decode q_M_areInside.2.1 75 = .ok (.iload_n 1, 1) := by decide +kernel
theorem d_M_areInside_76 : decode q_M_areInside.2.1 76 = .ok (.ireturn, 1) := by decide +kernel
theorem d_M_areInside_27 : decode q_M_areInside.2.1 27 = .ok (.aload_n 0, 1) := by decide +kernel
theorem d_M_areInside_28 : decode q_M_areInside.2.1 28 = .ok (.getfield 43, 3) := by decide +kernel
theorem fl_M_43 : rx_F "GlassRoomModel" 43 12 18 := ⟨(RX12, TX12, 45), rfl, by decide, (rx_s5 117 rfl rfl), rx_T12⟩
theorem d_M_areInside_31 : decode q_M_areInside.2.1 31 = .ok (.iconst 3, 1) := by decide +kernel
theorem d_M_areInside_32 : decode q_M_areInside.2.1 32 = .ok (.iload_n 2, 1) := by decide +kernel
theorem d_M_areInside_33 : decode q_M_areInside.2.1 33 = .ok (.imul, 1) := by decide +kernel
theorem d_M_areInside_34 : decode q_M_areInside.2.1 34 = .ok (.iaload, 1) := by decide +kernel
theorem d_M_areInside_35 : decode q_M_areInside.2.1 35 = .ok (.aload_n 0, 1) := by decide +kernel
theorem d_M_areInside_36 : decode q_M_areInside.2.1 36 = .ok (.getfield 40, 3) := by decide +kernel
theorem fl_M_40 : rx_F "GlassRoomModel" 40 12 17 := ⟨(RX12, TX12, 45), rfl, by decide, (rx_s5 116 rfl rfl), rx_T12⟩
theorem d_M_areInside_39 : decode q_M_areInside.2.1 39 = .ok (.iconst 0, 1) := by decide +kernel
theorem d_M_areInside_40 : decode q_M_areInside.2.1 40 = .ok (.iaload, 1) := by decide +kernel
theorem d_M_areInside_41 : decode q_M_areInside.2.1 41 = .ok (.if_icmp .gt 26, 3) := by decide +kernel
theorem d_M_areInside_44 : decode q_M_areInside.2.1 44 = .ok (.aload_n 0, 1) := by decide +kernel
theorem d_M_areInside_45 : decode q_M_areInside.2.1 45 = .ok (.getfield 43, 3) := by decide +kernel
theorem d_M_areInside_48 : decode q_M_areInside.2.1 48 = .ok (.iconst 3, 1) := by decide +kernel
theorem d_M_areInside_49 : decode q_M_areInside.2.1 49 = .ok (.iload_n 2, 1) := by decide +kernel
theorem d_M_areInside_50 : decode q_M_areInside.2.1 50 = .ok (.imul, 1) := by decide +kernel
theorem d_M_areInside_51 : decode q_M_areInside.2.1 51 = .ok (.iconst 1, 1) := by decide +kernel
theorem d_M_areInside_52 : decode q_M_areInside.2.1 52 = .ok (.iadd, 1) := by decide +kernel
theorem d_M_areInside_53 : decode q_M_areInside.2.1 53 = .ok (.iaload, 1) := by decide +kernel
theorem d_M_areInside_54 : decode q_M_areInside.2.1 54 = .ok (.aload_n 0, 1) := by decide +kernel
theorem d_M_areInside_55 : decode q_M_areInside.2.1 55 = .ok (.getfield 40, 3) := by decide +kernel
theorem d_M_areInside_58 : decode q_M_areInside.2.1 58 = .ok (.iconst 1, 1) := by decide +kernel
theorem d_M_areInside_59 : decode q_M_areInside.2.1 59 = .ok (.iaload, 1) := by decide +kernel
theorem d_M_areInside_60 : decode q_M_areInside.2.1 60 = .ok (.if_icmp .gt 7, 3) := by decide +kernel
theorem d_M_areInside_63 : decode q_M_areInside.2.1 63 = .ok (.iconst 1, 1) := by decide +kernel
theorem d_M_areInside_64 : decode q_M_areInside.2.1 64 = .ok (.goto 4, 3) := by decide +kernel
theorem d_M_takeHall_0 : decode q_M_takeHall.2.1 0 = .ok (.aload_n 0, 1) := by decide +kernel
theorem d_M_takeHall_1 : decode q_M_takeHall.2.1 1 = .ok (.aload_n 0, 1) := by decide +kernel
theorem d_M_takeHall_2 : decode q_M_takeHall.2.1 2 = .ok (.getfield 219, 3) := by decide +kernel
theorem d_M_takeHall_5 : decode q_M_takeHall.2.1 5 = .ok (.putfield 236, 3) := by decide +kernel
theorem fp_M_236 : rx_FP "GlassRoomModel" 236 12 23 (.int) := ⟨(RX12, TX12, 45), tyX12, rfl, by decide, (rx_s5 122 rfl rfl), rx_T12, tyX12_ok, nmX12, rfl, rfl⟩
theorem d_M_takeHall_8 : decode q_M_takeHall.2.1 8 = .ok (.aload_n 0, 1) := by decide +kernel
theorem d_M_takeHall_9 : decode q_M_takeHall.2.1 9 = .ok (.aload_n 0, 1) := by decide +kernel
theorem d_M_takeHall_10 : decode q_M_takeHall.2.1 10 = .ok (.getfield 40, 3) := by decide +kernel
theorem d_M_takeHall_13 : decode q_M_takeHall.2.1 13 = .ok (.iconst 0, 1) := by decide +kernel
theorem d_M_takeHall_14 : decode q_M_takeHall.2.1 14 = .ok (.iaload, 1) := by decide +kernel
theorem d_M_takeHall_15 : decode q_M_takeHall.2.1 15 = .ok (.putfield 239, 3) := by decide +kernel
theorem fp_M_239 : rx_FP "GlassRoomModel" 239 12 24 (.int) := ⟨(RX12, TX12, 45), tyX12, rfl, by decide, (rx_s5 123 rfl rfl), rx_T12, tyX12_ok, nmX12, rfl, rfl⟩
theorem d_M_takeHall_18 : decode q_M_takeHall.2.1 18 = .ok (.aload_n 0, 1) := by decide +kernel
theorem d_M_takeHall_19 : decode q_M_takeHall.2.1 19 = .ok (.aload_n 0, 1) := by decide +kernel
theorem d_M_takeHall_20 : decode q_M_takeHall.2.1 20 = .ok (.getfield 40, 3) := by decide +kernel
theorem d_M_takeHall_23 : decode q_M_takeHall.2.1 23 = .ok (.iconst 1, 1) := by decide +kernel
theorem d_M_takeHall_24 : decode q_M_takeHall.2.1 24 = .ok (.iaload, 1) := by decide +kernel
theorem d_M_takeHall_25 : decode q_M_takeHall.2.1 25 = .ok (.putfield 242, 3) := by decide +kernel
theorem fp_M_242 : rx_FP "GlassRoomModel" 242 12 25 (.int) := ⟨(RX12, TX12, 45), tyX12, rfl, by decide, (rx_s5 124 rfl rfl), rx_T12, tyX12_ok, nmX12, rfl, rfl⟩
theorem d_M_takeHall_28 : decode q_M_takeHall.2.1 28 = .ok (.aload_n 0, 1) := by decide +kernel
theorem d_M_takeHall_29 : decode q_M_takeHall.2.1 29 = .ok (.aload_n 0, 1) := by decide +kernel
theorem d_M_takeHall_30 : decode q_M_takeHall.2.1 30 = .ok (.getfield 40, 3) := by decide +kernel
theorem d_M_takeHall_33 : decode q_M_takeHall.2.1 33 = .ok (.iconst 2, 1) := by decide +kernel
theorem d_M_takeHall_34 : decode q_M_takeHall.2.1 34 = .ok (.iaload, 1) := by decide +kernel
theorem d_M_takeHall_35 : decode q_M_takeHall.2.1 35 = .ok (.putfield 245, 3) := by decide +kernel
theorem fp_M_245 : rx_FP "GlassRoomModel" 245 12 26 (.int) := ⟨(RX12, TX12, 45), tyX12, rfl, by decide, (rx_s5 125 rfl rfl), rx_T12, tyX12_ok, nmX12, rfl, rfl⟩
theorem d_M_takeHall_38 : decode q_M_takeHall.2.1 38 = .ok (.aload_n 0, 1) := by decide +kernel
theorem d_M_takeHall_39 : decode q_M_takeHall.2.1 39 = .ok (.aload_n 0, 1) := by decide +kernel
theorem d_M_takeHall_40 : decode q_M_takeHall.2.1 40 = .ok (.getfield 40, 3) := by decide +kernel
theorem d_M_takeHall_43 : decode q_M_takeHall.2.1 43 = .ok (.iconst 3, 1) := by decide +kernel
theorem d_M_takeHall_44 : decode q_M_takeHall.2.1 44 = .ok (.iaload, 1) := by decide +kernel
theorem d_M_takeHall_45 : decode q_M_takeHall.2.1 45 = .ok (.putfield 248, 3) := by decide +kernel
theorem fp_M_248 : rx_FP "GlassRoomModel" 248 12 27 (.int) := ⟨(RX12, TX12, 45), tyX12, rfl, by decide, (rx_s5 126 rfl rfl), rx_T12, tyX12_ok, nmX12, rfl, rfl⟩
theorem d_M_takeHall_48 : decode q_M_takeHall.2.1 48 = .ok (.iconst 0, 1) := by decide +kernel
theorem d_M_takeHall_49 : decode q_M_takeHall.2.1 49 = .ok (.istore_n 1, 1) := by decide +kernel
theorem d_M_takeHall_50 : decode q_M_takeHall.2.1 50 = .ok (.iload_n 1, 1) := by decide +kernel
theorem d_M_takeHall_51 : decode q_M_takeHall.2.1 51 = .ok (.bipush 6, 2) := by decide +kernel
theorem d_M_takeHall_53 : decode q_M_takeHall.2.1 53 = .ok (.if_icmp .ge 55, 3) := by decide +kernel
theorem d_M_takeHall_56 : decode q_M_takeHall.2.1 56 = .ok (.aload_n 0, 1) := by decide +kernel
theorem d_M_takeHall_57 : decode q_M_takeHall.2.1 57 = .ok (.getfield 46, 3) := by decide +kernel
theorem d_M_takeHall_60 : decode q_M_takeHall.2.1 60 = .ok (.iload_n 1, 1) := by decide +kernel
theorem d_M_takeHall_61 : decode q_M_takeHall.2.1 61 = .ok (.aload_n 0, 1) := by decide +kernel
theorem d_M_takeHall_62 : decode q_M_takeHall.2.1 62 = .ok (.getfield 43, 3) := by decide +kernel
theorem d_M_takeHall_65 : decode q_M_takeHall.2.1 65 = .ok (.iconst 3, 1) := by decide +kernel
theorem d_M_takeHall_66 : decode q_M_takeHall.2.1 66 = .ok (.iload_n 1, 1) := by decide +kernel
theorem d_M_takeHall_67 : decode q_M_takeHall.2.1 67 = .ok (.imul, 1) := by decide +kernel
theorem d_M_takeHall_108 : decode q_M_takeHall.2.1 108 = .ok (.aload_n 0, 1) := by decide +kernel
theorem d_M_takeHall_109 : decode q_M_takeHall.2.1 109 = .ok (.iconst 0, 1) := by decide +kernel
theorem d_M_takeHall_110 : decode q_M_takeHall.2.1 110 = .ok (.putfield 251, 3) := by decide +kernel
theorem d_M_takeHall_113 : decode q_M_takeHall.2.1 113 = .ok (.aload_n 0, 1) := by decide +kernel
theorem d_M_takeHall_114 : decode q_M_takeHall.2.1 114 = .ok (.iconst 0, 1) := by decide +kernel
theorem d_M_takeHall_115 : decode q_M_takeHall.2.1 115 = .ok (.putfield 254, 3) := by decide +kernel
theorem fp_M_254 : rx_FP "GlassRoomModel" 254 12 30 (.int) := ⟨(RX12, TX12, 45), tyX12, rfl, by decide, (rx_s5 129 rfl rfl), rx_T12, tyX12_ok, nmX12, rfl, rfl⟩
theorem d_M_takeHall_118 : decode q_M_takeHall.2.1 118 = .ok (.aload_n 0, 1) := by decide +kernel
theorem d_M_takeHall_119 : decode q_M_takeHall.2.1 119 = .ok (.iconst 0, 1) := by decide +kernel
theorem d_M_takeHall_120 : decode q_M_takeHall.2.1 120 = .ok (.putfield 257, 3) := by decide +kernel
theorem fp_M_257 : rx_FP "GlassRoomModel" 257 12 44 (.boolean) := ⟨(RX12, TX12, 45), tyX12, rfl, by decide, (rx_s5 143 rfl rfl), rx_T12, tyX12_ok, nmX12, rfl, rfl⟩
theorem d_M_takeHall_123 : decode q_M_takeHall.2.1 123 = .ok (.aload_n 0, 1) := by decide +kernel
theorem d_M_takeHall_124 : decode q_M_takeHall.2.1 124 = .ok (.getfield 236, 3) := by decide +kernel
theorem d_M_takeHall_127 : decode q_M_takeHall.2.1 127 = .ok (.ireturn, 1) := by decide +kernel
theorem d_M_takeHall_68 : decode q_M_takeHall.2.1 68 = .ok (.iaload, 1) := by decide +kernel
theorem d_M_takeHall_69 : decode q_M_takeHall.2.1 69 = .ok (.iastore, 1) := by decide +kernel
theorem d_M_takeHall_70 : decode q_M_takeHall.2.1 70 = .ok (.aload_n 0, 1) := by decide +kernel
theorem d_M_takeHall_71 : decode q_M_takeHall.2.1 71 = .ok (.getfield 49, 3) := by decide +kernel
theorem d_M_takeHall_74 : decode q_M_takeHall.2.1 74 = .ok (.iload_n 1, 1) := by decide +kernel
theorem d_M_takeHall_75 : decode q_M_takeHall.2.1 75 = .ok (.aload_n 0, 1) := by decide +kernel
theorem d_M_takeHall_76 : decode q_M_takeHall.2.1 76 = .ok (.getfield 43, 3) := by decide +kernel
theorem d_M_takeHall_79 : decode q_M_takeHall.2.1 79 = .ok (.iconst 3, 1) := by decide +kernel
theorem d_M_takeHall_80 : decode q_M_takeHall.2.1 80 = .ok (.iload_n 1, 1) := by decide +kernel
theorem d_M_takeHall_81 : decode q_M_takeHall.2.1 81 = .ok (.imul, 1) := by decide +kernel
theorem d_M_takeHall_82 : decode q_M_takeHall.2.1 82 = .ok (.iconst 1, 1) := by decide +kernel
theorem d_M_takeHall_83 : decode q_M_takeHall.2.1 83 = .ok (.iadd, 1) := by decide +kernel
theorem d_M_takeHall_84 : decode q_M_takeHall.2.1 84 = .ok (.iaload, 1) := by decide +kernel
theorem d_M_takeHall_85 : decode q_M_takeHall.2.1 85 = .ok (.iastore, 1) := by decide +kernel
theorem d_M_takeHall_86 : decode q_M_takeHall.2.1 86 = .ok (.aload_n 0, 1) := by decide +kernel
theorem d_M_takeHall_87 : decode q_M_takeHall.2.1 87 = .ok (.getfield 52, 3) := by decide +kernel
theorem d_M_takeHall_90 : decode q_M_takeHall.2.1 90 = .ok (.iload_n 1, 1) := by decide +kernel
theorem d_M_takeHall_91 : decode q_M_takeHall.2.1 91 = .ok (.aload_n 0, 1) := by decide +kernel
theorem d_M_takeHall_92 : decode q_M_takeHall.2.1 92 = .ok (.getfield 43, 3) := by decide +kernel
theorem d_M_takeHall_95 : decode q_M_takeHall.2.1 95 = .ok (.iconst 3, 1) := by decide +kernel
theorem d_M_takeHall_96 : decode q_M_takeHall.2.1 96 = .ok (.iload_n 1, 1) := by decide +kernel
theorem d_M_takeHall_97 : decode q_M_takeHall.2.1 97 = .ok (.imul, 1) := by decide +kernel
theorem d_M_takeHall_98 : decode q_M_takeHall.2.1 98 = .ok (.iconst 2, 1) := by decide +kernel
theorem d_M_takeHall_99 : decode q_M_takeHall.2.1 99 = .ok (.iadd, 1) := by decide +kernel
theorem d_M_takeHall_100 : decode q_M_takeHall.2.1 100 = .ok (.iaload, 1) := by decide +kernel
theorem d_M_takeHall_101 : decode q_M_takeHall.2.1 101 = .ok (.iastore, 1) := by decide +kernel
theorem d_M_takeHall_102 : decode q_M_takeHall.2.1 102 = .ok (.iinc 1 1, 3) := by decide +kernel
theorem d_M_takeHall_105 : decode q_M_takeHall.2.1 105 = .ok (.goto (-55), 3) := by decide +kernel
set_option maxHeartbeats 4000000 in
set_option maxRecDepth 20000 in
theorem w_M_feed {G : rx_Gh} {hp : rx_Hp} {F : Int32 → rx_Hp → Prop} (a1 : Int32) (a2 : Int32) (a3 : Int32) (a4 : Int32) (a5 : Int32) (H : Rn wM G 2 q_M_feed 6 [some (.ref 0), some (.int a1), some (.int a2), some (.int a3), some (.int a4), some (.int a5), some (.int 0), some (.int 0), none] [] hp (rI F)) : Ev wM G 2 q_M_feed [.ref 0, .int a1, .int a2, .int a3, .int a4, .int a5] hp (rI F) := by
  refine ev_of rfl (Nat.le_of_ble_eq_true rfl) rfl ?_
  show Rn wM G 2 q_M_feed 0 [some (.ref 0), some (.int a1), some (.int a2), some (.int a3), some (.int a4), some (.int a5), none, none, none] [] hp (rI F)
  refine r_iconst d_M_feed_0 ic_0 ?_
  refine r_istore (lz := [some (.ref 0), some (.int a1), some (.int a2), some (.int a3), some (.int a4), some (.int a5), some (.int 0), none, none]) d_M_feed_1 (by decide) rfl rfl ?_
  refine r_iconst d_M_feed_3 ic_0 ?_
  refine r_istore (lz := [some (.ref 0), some (.int a1), some (.int a2), some (.int a3), some (.int a4), some (.int a5), some (.int 0), some (.int 0), none]) d_M_feed_4 (by decide) rfl rfl ?_
  exact H
set_option maxHeartbeats 4000000 in
set_option maxRecDepth 20000 in
theorem w_M_feed_6 {G : rx_Gh} {hp : rx_Hp} {F : Int32 → rx_Hp → Prop} (x1 : Int32) (x2 : Int32) (x3 : Int32) (x4 : Int32) (x5 : Int32) (x6 : Int32) (x7 : Int32) (H : (20 ≤ x7 → (((hp.1 0 2) + x6) ≤ 160 → Rn wM G 2 q_M_feed 62 [some (.ref 0), some (.int x1), some (.int x2), some (.int x3), some (.int x4), some (.int x5), none, some (.int 0), none] [] hp (rI F)) ∧ (¬ ((hp.1 0 2) + x6) ≤ 160 → F (-1) hp)) ∧ (¬ 20 ≤ x7 → Rn wM G 2 q_M_feed 6 [some (.ref 0), some (.int x1), some (.int x2), some (.int x3), some (.int x4), some (.int x5), some (.int (x6 + ((if (f_M_byteOf x1 x2 x3 x4 x5 x7) = 0 then 0 else 1) : Int32))), some (.int (x7 + 1)), none] [] hp (rI F))) : Rn wM G 2 q_M_feed 6 [some (.ref 0), some (.int x1), some (.int x2), some (.int x3), some (.int x4), some (.int x5), some (.int x6), some (.int x7), none] [] hp (rI F) := by
  refine r_iload d_M_feed_6 rfl ?_
  refine r_bipush d_M_feed_8 bp_20 ?_
  refine r_icmp_ge (tgt := 44) d_M_feed_10 (by decide) (fun hc_10 => ?_) (fun hc_10 => ?_)
  · replace H := H.1 hc_10
    refine r_aload_n (i := 0) d_M_feed_44 rfl rfl ?_
    refine r_getI (b := 0) (v := hp.1 0 2) d_M_feed_45 fl_M_90 (by decide) rfl rfl rfl ?_
    refine r_iload d_M_feed_48 rfl ?_
    refine r_iadd d_M_feed_50 ?_
    refine r_sipush d_M_feed_51 sp_160 ?_
    refine r_icmp_le (tgt := 59) d_M_feed_54 (by decide) (fun hc_54 => ?_) (fun hc_54 => ?_)
    · replace H := H.1 hc_54
      refine r_iconst d_M_feed_59 ic_0 ?_
      refine r_istore (lz := [some (.ref 0), some (.int x1), some (.int x2), some (.int x3), some (.int x4), some (.int x5), some (.int x6), some (.int 0), none]) d_M_feed_60 (by decide) rfl rfl ?_
      exact rx_fgt [false, false, false, false, false, false, true] H
    · replace H := H.2 hc_54
      refine r_iconst d_M_feed_57 ic_m1 ?_
      exact rI_ret d_M_feed_58 rfl H
  · replace H := H.2 hc_10
    have J27 : ∀ (v27_0 : Int32), v27_0 = ((if (f_M_byteOf x1 x2 x3 x4 x5 x7) = 0 then 0 else 1) : Int32) → Rn wM G 2 q_M_feed 35 [some (.ref 0), some (.int x1), some (.int x2), some (.int x3), some (.int x4), some (.int x5), some (.int x6), some (.int x7), none] [.int v27_0, .int x6] hp (rI F) := by
      rintro _ rfl
      refine r_iadd d_M_feed_35 ?_
      refine r_istore (lz := [some (.ref 0), some (.int x1), some (.int x2), some (.int x3), some (.int x4), some (.int x5), some (.int (x6 + ((if (f_M_byteOf x1 x2 x3 x4 x5 x7) = 0 then 0 else 1) : Int32))), some (.int x7), none]) d_M_feed_36 (by decide) rfl rfl ?_
      refine r_iinc (v := x7 + 1) (lz := [some (.ref 0), some (.int x1), some (.int x2), some (.int x3), some (.int x4), some (.int x5), some (.int (x6 + ((if (f_M_byteOf x1 x2 x3 x4 x5 x7) = 0 then 0 else 1) : Int32))), some (.int (x7 + 1)), none]) d_M_feed_38 rfl (by rw [ic_1]) (by decide) rfl rfl ?_
      refine r_goto (tgt := 6) d_M_feed_41 (by decide) ?_
      exact H
    refine r_iload d_M_feed_13 rfl ?_
    refine r_iload_n (i := 1) d_M_feed_15 rfl rfl ?_
    refine r_iload_n (i := 2) d_M_feed_16 rfl rfl ?_
    refine r_iload_n (i := 3) d_M_feed_17 rfl rfl ?_
    refine r_iload d_M_feed_18 rfl ?_
    refine r_iload d_M_feed_20 rfl ?_
    refine r_iload d_M_feed_22 rfl ?_
    refine rk_SI (d' := 1) [.int x1, .int x2, .int x3, .int x4, .int x5, .int x7] [.int x6] d_M_feed_24 ml_M_86 rfl rfl (by decide) (Nat.le_of_ble_eq_true rfl) (s_M_byteOf x1 x2 x3 x4 x5 x7 ?_)
    refine r_if_eq (tgt := 34) d_M_feed_27 (by decide) (fun hc_27 => ?_) (fun hc_27 => ?_)
    · refine r_iconst d_M_feed_34 ic_0 ?_
      exact J27 _ (((if_pos hc_27).trans rfl)).symm
    · refine r_iconst d_M_feed_30 ic_1 ?_
      refine r_goto (tgt := 35) d_M_feed_31 (by decide) ?_
      exact J27 _ (((if_neg hc_27).trans rfl)).symm
set_option maxHeartbeats 4000000 in
set_option maxRecDepth 20000 in
theorem w_M_feed_62 {G : rx_Gh} {hp : rx_Hp} {F : Int32 → rx_Hp → Prop} (x1 : Int32) (x2 : Int32) (x3 : Int32) (x4 : Int32) (x5 : Int32) (x7 : Int32) (H : (20 ≤ x7 → F (hp.1 0 2) hp) ∧ (¬ 20 ≤ x7 → ((f_M_byteOf x1 x2 x3 x4 x5 x7) = 0 → Rn wM G 2 q_M_feed 62 [some (.ref 0), some (.int x1), some (.int x2), some (.int x3), some (.int x4), some (.int x5), none, some (.int (x7 + 1)), none] [] hp (rI F)) ∧ (¬ (f_M_byteOf x1 x2 x3 x4 x5 x7) = 0 → vp_in (hp.1 0 2) 160 ∧ (Rn wM G 2 q_M_feed 62 [some (.ref 0), some (.int x1), some (.int x2), some (.int x3), some (.int x4), some (.int x5), none, some (.int (x7 + 1)), none] [] (rx_pf (rx_pa hp 1 ((hp.1 0 2).toNatClampNeg) (f_M_byteOf x1 x2 x3 x4 x5 x7)) 0 2 ((hp.1 0 2) + 1)) (rI F))))) : Rn wM G 2 q_M_feed 62 [some (.ref 0), some (.int x1), some (.int x2), some (.int x3), some (.int x4), some (.int x5), none, some (.int x7), none] [] hp (rI F) := by
  refine r_iload d_M_feed_62 rfl ?_
  refine r_bipush d_M_feed_64 bp_20 ?_
  refine r_icmp_ge (tgt := 115) d_M_feed_66 (by decide) (fun hc_66 => ?_) (fun hc_66 => ?_)
  · replace H := H.1 hc_66
    refine r_aload_n (i := 0) d_M_feed_115 rfl rfl ?_
    refine r_getI (b := 0) (v := hp.1 0 2) d_M_feed_116 fl_M_90 (by decide) rfl rfl rfl ?_
    exact rI_ret d_M_feed_119 rfl H
  · replace H := H.2 hc_66
    refine r_iload_n (i := 1) d_M_feed_69 rfl rfl ?_
    refine r_iload_n (i := 2) d_M_feed_70 rfl rfl ?_
    refine r_iload_n (i := 3) d_M_feed_71 rfl rfl ?_
    refine r_iload d_M_feed_72 rfl ?_
    refine r_iload d_M_feed_74 rfl ?_
    refine r_iload d_M_feed_76 rfl ?_
    refine rk_SI (d' := 1) [.int x1, .int x2, .int x3, .int x4, .int x5, .int x7] [] d_M_feed_78 ml_M_86 rfl rfl (by decide) (Nat.le_of_ble_eq_true rfl) (s_M_byteOf x1 x2 x3 x4 x5 x7 ?_)
    refine r_istore (lz := [some (.ref 0), some (.int x1), some (.int x2), some (.int x3), some (.int x4), some (.int x5), none, some (.int x7), some (.int (f_M_byteOf x1 x2 x3 x4 x5 x7))]) d_M_feed_81 (by decide) rfl rfl ?_
    refine r_iload d_M_feed_83 rfl ?_
    refine r_if_eq (tgt := 109) d_M_feed_85 (by decide) (fun hc_85 => ?_) (fun hc_85 => ?_)
    · replace H := H.1 hc_85
      refine r_iinc (v := x7 + 1) (lz := [some (.ref 0), some (.int x1), some (.int x2), some (.int x3), some (.int x4), some (.int x5), none, some (.int (x7 + 1)), some (.int (f_M_byteOf x1 x2 x3 x4 x5 x7))]) d_M_feed_109 rfl (by rw [ic_1]) (by decide) rfl rfl ?_
      refine r_goto (tgt := 62) d_M_feed_112 (by decide) ?_
      exact rx_fgt [false, false, false, false, false, false, false, false, true] H
    · replace H := H.2 hc_85
      refine r_aload_n (i := 0) d_M_feed_88 rfl rfl ?_
      refine r_getR (b := 0) (r := 1) d_M_feed_89 fl_M_9 (by decide) rfl rfl rfl ?_
      refine r_aload_n (i := 0) d_M_feed_92 rfl rfl ?_
      refine r_getI (b := 0) (v := hp.1 0 2) d_M_feed_93 fl_M_90 (by decide) rfl rfl rfl ?_
      refine r_iload d_M_feed_96 rfl ?_
      obtain ⟨hi_98, H⟩ := H
      refine r_iast (b := 1) (i := (hp.1 0 2).toNatClampNeg) d_M_feed_98 (by decide) rfl hi_98 rfl ?_
      refine r_aload_n (i := 0) d_M_feed_99 rfl rfl ?_
      refine r_dupr d_M_feed_100 ?_
      refine r_getI (b := 0) (v := hp.1 0 2) d_M_feed_101 fl_M_90 (by decide) rfl rfl rfl ?_
      refine r_iconst d_M_feed_104 ic_1 ?_
      refine r_iadd d_M_feed_105 ?_
      refine r_putI (b := 0) d_M_feed_106 fp_M_90 ⟨rfl, rfl⟩ (by decide) rfl rfl ?_
      refine r_iinc (v := x7 + 1) (lz := [some (.ref 0), some (.int x1), some (.int x2), some (.int x3), some (.int x4), some (.int x5), none, some (.int (x7 + 1)), some (.int (f_M_byteOf x1 x2 x3 x4 x5 x7))]) d_M_feed_109 rfl (by rw [ic_1]) (by decide) rfl rfl ?_
      refine r_goto (tgt := 62) d_M_feed_112 (by decide) ?_
      exact rx_fgt [false, false, false, false, false, false, false, false, true] H
set_option maxHeartbeats 4000000 in
set_option maxRecDepth 20000 in
theorem w_M_look {G : rx_Gh} {hp : rx_Hp} {F : Int32 → rx_Hp → Prop}  (H : Rn wM G 2 q_M_look 0 [some (.ref 0)] [] hp (rI F)) : Ev wM G 2 q_M_look [.ref 0] hp (rI F) := by
  refine ev_of rfl (Nat.le_of_ble_eq_true rfl) rfl ?_
  show Rn wM G 2 q_M_look 0 [some (.ref 0)] [] hp (rI F)
  exact H
set_option maxHeartbeats 4000000 in
set_option maxRecDepth 20000 in
theorem w_M_look_0 {G : rx_Gh} {hp : rx_Hp} {F : Int32 → rx_Hp → Prop}  (H : p_M_here hp ∧ (((f_M_here hp) = 32 → Rn wM G 2 q_M_look 0 [some (.ref 0)] [] (rx_pf hp 0 3 ((hp.1 0 3) + 1)) (rI F)) ∧ (¬ (f_M_here hp) = 32 → F (f_M_here hp) hp))) : Rn wM G 2 q_M_look 0 [some (.ref 0)] [] hp (rI F) := by
  refine r_aload_n (i := 0) d_M_look_0 rfl rfl ?_
  obtain ⟨hp_1_0, H⟩ := H
  refine rk_VI (b := 0) (d' := 1) [] [] d_M_look_1 ml_M_96 rfl rfl (by decide) (by decide) rfl rfl (Nat.le_of_ble_eq_true rfl) (s_M_here hp_1_0 ?_)
  refine r_bipush d_M_look_4 bp_32 ?_
  refine r_icmp_ne (tgt := 22) d_M_look_6 (by decide) (fun hc_6 => ?_) (fun hc_6 => ?_)
  · replace H := H.2 hc_6
    refine r_aload_n (i := 0) d_M_look_22 rfl rfl ?_
    refine rk_VI (b := 0) (d' := 1) [] [] d_M_look_23 ml_M_96 rfl rfl (by decide) (by decide) rfl rfl (Nat.le_of_ble_eq_true rfl) (s_M_here hp_1_0 ?_)
    exact rI_ret d_M_look_26 rfl H
  · replace H := H.1 hc_6
    refine r_aload_n (i := 0) d_M_look_9 rfl rfl ?_
    refine r_dupr d_M_look_10 ?_
    refine r_getI (b := 0) (v := hp.1 0 3) d_M_look_11 fl_M_93 (by decide) rfl rfl rfl ?_
    refine r_iconst d_M_look_14 ic_1 ?_
    refine r_iadd d_M_look_15 ?_
    refine r_putI (b := 0) d_M_look_16 fp_M_93 ⟨rfl, rfl⟩ (by decide) rfl rfl ?_
    refine r_goto (tgt := 0) d_M_look_19 (by decide) ?_
    exact H
set_option maxHeartbeats 4000000 in
set_option maxRecDepth 20000 in
theorem w_M_plainNumber {G : rx_Gh} {hp : rx_Hp} {F : Int32 → rx_Hp → Prop}  (H : Rn wM G 2 q_M_plainNumber 4 [some (.ref 0), some (.int 0), some (.int 0)] [] hp (rI F)) : Ev wM G 2 q_M_plainNumber [.ref 0] hp (rI F) := by
  refine ev_of rfl (Nat.le_of_ble_eq_true rfl) rfl ?_
  show Rn wM G 2 q_M_plainNumber 0 [some (.ref 0), none, none] [] hp (rI F)
  refine r_iconst d_M_plainNumber_0 ic_0 ?_
  refine r_istore_n (i := 1) (lz := [some (.ref 0), some (.int 0), none]) d_M_plainNumber_1 rfl (by decide) rfl rfl ?_
  refine r_iconst d_M_plainNumber_2 ic_0 ?_
  refine r_istore_n (i := 2) (lz := [some (.ref 0), some (.int 0), some (.int 0)]) d_M_plainNumber_3 rfl (by decide) rfl rfl ?_
  exact H
set_option maxHeartbeats 4000000 in
set_option maxRecDepth 20000 in
theorem w_M_plainNumber_4 {G : rx_Gh} {hp : rx_Hp} {F : Int32 → rx_Hp → Prop} (x1 : Int32) (x2 : Int32) (H : (4 ≤ x2 → p_M_here hp ∧ (((f_M_isDigit (f_M_here hp)) = 0 → F x1 hp) ∧ (¬ (f_M_isDigit (f_M_here hp)) = 0 → F x1 (g_M_bad hp)))) ∧ (¬ 4 ≤ x2 → p_M_here hp ∧ (((f_M_isDigit (f_M_here hp)) = 0 → F x1 hp) ∧ (¬ (f_M_isDigit (f_M_here hp)) = 0 → Rn wM G 2 q_M_plainNumber 4 [some (.ref 0), some (.int (((10 * x1) + (f_M_here hp)) - 48)), some (.int (x2 + 1))] [] (rx_pf hp 0 3 ((hp.1 0 3) + 1)) (rI F))))) : Rn wM G 2 q_M_plainNumber 4 [some (.ref 0), some (.int x1), some (.int x2)] [] hp (rI F) := by
  refine r_iload_n (i := 2) d_M_plainNumber_4 rfl rfl ?_
  refine r_iconst d_M_plainNumber_5 ic_4 ?_
  refine r_icmp_ge (tgt := 48) d_M_plainNumber_6 (by decide) (fun hc_6 => ?_) (fun hc_6 => ?_)
  · replace H := H.1 hc_6
    refine r_aload_n (i := 0) d_M_plainNumber_48 rfl rfl ?_
    obtain ⟨hp_49_0, H⟩ := H
    refine rk_VI (b := 0) (d' := 1) [] [] d_M_plainNumber_49 ml_M_96 rfl rfl (by decide) (by decide) rfl rfl (Nat.le_of_ble_eq_true rfl) (s_M_here hp_49_0 ?_)
    refine rk_SI (d' := 1) [.int (f_M_here hp)] [] d_M_plainNumber_52 ml_M_115 rfl rfl (by decide) (Nat.le_of_ble_eq_true rfl) (s_M_isDigit (f_M_here hp) ?_)
    refine r_if_eq (tgt := 62) d_M_plainNumber_55 (by decide) (fun hc_55 => ?_) (fun hc_55 => ?_)
    · replace H := H.1 hc_55
      refine r_iload_n (i := 1) d_M_plainNumber_62 rfl rfl ?_
      exact rI_ret d_M_plainNumber_63 rfl H
    · replace H := H.2 hc_55
      refine r_aload_n (i := 0) d_M_plainNumber_58 rfl rfl ?_
      refine rk_VV (b := 0) (d' := 1) [] [] d_M_plainNumber_59 ml_M_109 rfl rfl (by decide) (by decide) rfl rfl (Nat.le_of_ble_eq_true rfl) (s_M_bad  ?_)
      refine r_iload_n (i := 1) d_M_plainNumber_62 rfl rfl ?_
      exact rI_ret d_M_plainNumber_63 rfl H
  · replace H := H.2 hc_6
    refine r_aload_n (i := 0) d_M_plainNumber_9 rfl rfl ?_
    obtain ⟨hp_10_0, H⟩ := H
    refine rk_VI (b := 0) (d' := 1) [] [] d_M_plainNumber_10 ml_M_96 rfl rfl (by decide) (by decide) rfl rfl (Nat.le_of_ble_eq_true rfl) (s_M_here hp_10_0 ?_)
    refine rk_SI (d' := 1) [.int (f_M_here hp)] [] d_M_plainNumber_13 ml_M_115 rfl rfl (by decide) (Nat.le_of_ble_eq_true rfl) (s_M_isDigit (f_M_here hp) ?_)
    refine r_if_eq (tgt := 48) d_M_plainNumber_16 (by decide) (fun hc_16 => ?_) (fun hc_16 => ?_)
    · replace H := H.1 hc_16
      refine r_aload_n (i := 0) d_M_plainNumber_48 rfl rfl ?_
      refine rk_VI (b := 0) (d' := 1) [] [] d_M_plainNumber_49 ml_M_96 rfl rfl (by decide) (by decide) rfl rfl (Nat.le_of_ble_eq_true rfl) (s_M_here hp_10_0 ?_)
      refine rk_SI (d' := 1) [.int (f_M_here hp)] [] d_M_plainNumber_52 ml_M_115 rfl rfl (by decide) (Nat.le_of_ble_eq_true rfl) (s_M_isDigit (f_M_here hp) ?_)
      refine r_if_eq (tgt := 62) d_M_plainNumber_55 (by decide) (fun _ => ?_) (fun h => absurd hc_16 h)
      refine r_iload_n (i := 1) d_M_plainNumber_62 rfl rfl ?_
      exact rI_ret d_M_plainNumber_63 rfl H
    · replace H := H.2 hc_16
      refine r_bipush d_M_plainNumber_19 bp_10 ?_
      refine r_iload_n (i := 1) d_M_plainNumber_21 rfl rfl ?_
      refine r_imul d_M_plainNumber_22 ?_
      refine r_aload_n (i := 0) d_M_plainNumber_23 rfl rfl ?_
      refine rk_VI (b := 0) (d' := 1) [] [.int (10 * x1)] d_M_plainNumber_24 ml_M_96 rfl rfl (by decide) (by decide) rfl rfl (Nat.le_of_ble_eq_true rfl) (s_M_here hp_10_0 ?_)
      refine r_iadd d_M_plainNumber_27 ?_
      refine r_bipush d_M_plainNumber_28 bp_48 ?_
      refine r_isub d_M_plainNumber_30 ?_
      refine r_istore_n (i := 1) (lz := [some (.ref 0), some (.int (((10 * x1) + (f_M_here hp)) - 48)), some (.int x2)]) d_M_plainNumber_31 rfl (by decide) rfl rfl ?_
      refine r_aload_n (i := 0) d_M_plainNumber_32 rfl rfl ?_
      refine r_dupr d_M_plainNumber_33 ?_
      refine r_getI (b := 0) (v := hp.1 0 3) d_M_plainNumber_34 fl_M_93 (by decide) rfl rfl rfl ?_
      refine r_iconst d_M_plainNumber_37 ic_1 ?_
      refine r_iadd d_M_plainNumber_38 ?_
      refine r_putI (b := 0) d_M_plainNumber_39 fp_M_93 ⟨rfl, rfl⟩ (by decide) rfl rfl ?_
      refine r_iinc (v := x2 + 1) (lz := [some (.ref 0), some (.int (((10 * x1) + (f_M_here hp)) - 48)), some (.int (x2 + 1))]) d_M_plainNumber_42 rfl (by rw [ic_1]) (by decide) rfl rfl ?_
      refine r_goto (tgt := 4) d_M_plainNumber_45 (by decide) ?_
      exact H
set_option maxHeartbeats 4000000 in
set_option maxRecDepth 20000 in
theorem w_M_areInside {G : rx_Gh} {hp : rx_Hp} {F : Int32 → rx_Hp → Prop}  (H : Rn wM G 1 q_M_areInside 15 [some (.ref 0), some (.int ((if (hp.1 0 19) ≤ 0 then 0 else 1) : Int32)), some (.int 0)] [] hp (rI F)) : Ev wM G 1 q_M_areInside [.ref 0] hp (rI F) := by
  refine ev_of rfl (Nat.le_of_ble_eq_true rfl) rfl ?_
  show Rn wM G 1 q_M_areInside 0 [some (.ref 0), none, none] [] hp (rI F)
  have J4 : ∀ (v4_0 : Int32), v4_0 = ((if (hp.1 0 19) ≤ 0 then 0 else 1) : Int32) → Rn wM G 1 q_M_areInside 12 [some (.ref 0), none, none] [.int v4_0] hp (rI F) := by
    rintro _ rfl
    refine r_istore_n (i := 1) (lz := [some (.ref 0), some (.int ((if (hp.1 0 19) ≤ 0 then 0 else 1) : Int32)), none]) d_M_areInside_12 rfl (by decide) rfl rfl ?_
    refine r_iconst d_M_areInside_13 ic_0 ?_
    refine r_istore_n (i := 2) (lz := [some (.ref 0), some (.int ((if (hp.1 0 19) ≤ 0 then 0 else 1) : Int32)), some (.int 0)]) d_M_areInside_14 rfl (by decide) rfl rfl ?_
    exact H
  refine r_aload_n (i := 0) d_M_areInside_0 rfl rfl ?_
  refine r_getI (b := 0) (v := hp.1 0 19) d_M_areInside_1 fl_M_219 (by decide) rfl rfl rfl ?_
  refine r_if_le (tgt := 11) d_M_areInside_4 (by decide) (fun hc_4 => ?_) (fun hc_4 => ?_)
  · refine r_iconst d_M_areInside_11 ic_0 ?_
    exact J4 _ (((if_pos hc_4).trans rfl)).symm
  · refine r_iconst d_M_areInside_7 ic_1 ?_
    refine r_goto (tgt := 12) d_M_areInside_8 (by decide) ?_
    exact J4 _ (((if_neg hc_4).trans rfl)).symm
set_option maxHeartbeats 4000000 in
set_option maxRecDepth 20000 in
theorem w_M_areInside_15 {G : rx_Gh} {hp : rx_Hp} {F : Int32 → rx_Hp → Prop} (x1 : Int32) (x2 : Int32) (H : ((hp.1 0 19) ≤ x2 → (x1 = 0 ∨ x1 = 1) ∧ (F x1 hp)) ∧ (¬ (hp.1 0 19) ≤ x2 → (x1 = 0 → Rn wM G 1 q_M_areInside 15 [some (.ref 0), some (.int 0), some (.int (x2 + 1))] [] hp (rI F)) ∧ (¬ x1 = 0 → vp_in (3 * x2) 18 ∧ (((hp.2.1 11 0) < (hp.2.1 12 (3 * x2).toNatClampNeg) → Rn wM G 1 q_M_areInside 15 [some (.ref 0), some (.int 0), some (.int (x2 + 1))] [] hp (rI F)) ∧ (¬ (hp.2.1 11 0) < (hp.2.1 12 (3 * x2).toNatClampNeg) → vp_in ((3 * x2) + 1) 18 ∧ (Rn wM G 1 q_M_areInside 15 [some (.ref 0), some (.int ((if (hp.2.1 11 1) < (hp.2.1 12 ((3 * x2) + 1).toNatClampNeg) then 0 else 1) : Int32)), some (.int (x2 + 1))] [] hp (rI F))))))) : Rn wM G 1 q_M_areInside 15 [some (.ref 0), some (.int x1), some (.int x2)] [] hp (rI F) := by
  refine r_iload_n (i := 2) d_M_areInside_15 rfl rfl ?_
  refine r_aload_n (i := 0) d_M_areInside_16 rfl rfl ?_
  refine r_getI (b := 0) (v := hp.1 0 19) d_M_areInside_17 fl_M_219 (by decide) rfl rfl rfl ?_
  refine r_icmp_ge (tgt := 75) d_M_areInside_20 (by decide) (fun hc_20 => ?_) (fun hc_20 => ?_)
  · replace H := H.1 hc_20
    refine r_iload_n (i := 1) d_M_areInside_75 rfl rfl ?_
    exact rZ_ret d_M_areInside_76 rfl H.1 H.2
  · replace H := H.2 hc_20
    refine r_iload_n (i := 1) d_M_areInside_23 rfl rfl ?_
    refine r_if_eq (tgt := 67) d_M_areInside_24 (by decide) (fun hc_24 => ?_) (fun hc_24 => ?_)
    · replace H := H.1 hc_24
      refine r_iconst d_M_areInside_67 ic_0 ?_
      refine r_istore_n (i := 1) (lz := [some (.ref 0), some (.int 0), some (.int x2)]) d_M_areInside_68 rfl (by decide) rfl rfl ?_
      refine r_iinc (v := x2 + 1) (lz := [some (.ref 0), some (.int 0), some (.int (x2 + 1))]) d_M_areInside_69 rfl (by rw [ic_1]) (by decide) rfl rfl ?_
      refine r_goto (tgt := 15) d_M_areInside_72 (by decide) ?_
      exact H
    · replace H := H.2 hc_24
      refine r_aload_n (i := 0) d_M_areInside_27 rfl rfl ?_
      refine r_getR (b := 0) (r := 12) d_M_areInside_28 fl_M_43 (by decide) rfl rfl rfl ?_
      refine r_iconst d_M_areInside_31 ic_3 ?_
      refine r_iload_n (i := 2) d_M_areInside_32 rfl rfl ?_
      refine r_imul d_M_areInside_33 ?_
      obtain ⟨hi_34, H⟩ := H
      refine r_iald (b := 12) (v := hp.2.1 12 (3 * x2).toNatClampNeg) d_M_areInside_34 (by decide) rfl hi_34 rfl ?_
      refine r_aload_n (i := 0) d_M_areInside_35 rfl rfl ?_
      refine r_getR (b := 0) (r := 11) d_M_areInside_36 fl_M_40 (by decide) rfl rfl rfl ?_
      refine r_iconst d_M_areInside_39 ic_0 ?_
      refine r_iald (b := 11) (v := hp.2.1 11 0) d_M_areInside_40 (by decide) rfl (by unfold vp_in; decide) rfl ?_
      refine r_icmp_gt (tgt := 67) d_M_areInside_41 (by decide) (fun hc_41 => ?_) (fun hc_41 => ?_)
      · replace H := H.1 hc_41
        refine r_iconst d_M_areInside_67 ic_0 ?_
        refine r_istore_n (i := 1) (lz := [some (.ref 0), some (.int 0), some (.int x2)]) d_M_areInside_68 rfl (by decide) rfl rfl ?_
        refine r_iinc (v := x2 + 1) (lz := [some (.ref 0), some (.int 0), some (.int (x2 + 1))]) d_M_areInside_69 rfl (by rw [ic_1]) (by decide) rfl rfl ?_
        refine r_goto (tgt := 15) d_M_areInside_72 (by decide) ?_
        exact H
      · replace H := H.2 hc_41
        refine r_aload_n (i := 0) d_M_areInside_44 rfl rfl ?_
        refine r_getR (b := 0) (r := 12) d_M_areInside_45 fl_M_43 (by decide) rfl rfl rfl ?_
        refine r_iconst d_M_areInside_48 ic_3 ?_
        refine r_iload_n (i := 2) d_M_areInside_49 rfl rfl ?_
        refine r_imul d_M_areInside_50 ?_
        refine r_iconst d_M_areInside_51 ic_1 ?_
        refine r_iadd d_M_areInside_52 ?_
        obtain ⟨hi_53, H⟩ := H
        refine r_iald (b := 12) (v := hp.2.1 12 ((3 * x2) + 1).toNatClampNeg) d_M_areInside_53 (by decide) rfl hi_53 rfl ?_
        have J60 : ∀ (v60_0 : Int32), v60_0 = ((if (hp.2.1 11 1) < (hp.2.1 12 ((3 * x2) + 1).toNatClampNeg) then 0 else 1) : Int32) → Rn wM G 1 q_M_areInside 68 [some (.ref 0), some (.int x1), some (.int x2)] [.int v60_0] hp (rI F) := by
          rintro _ rfl
          refine r_istore_n (i := 1) (lz := [some (.ref 0), some (.int ((if (hp.2.1 11 1) < (hp.2.1 12 ((3 * x2) + 1).toNatClampNeg) then 0 else 1) : Int32)), some (.int x2)]) d_M_areInside_68 rfl (by decide) rfl rfl ?_
          refine r_iinc (v := x2 + 1) (lz := [some (.ref 0), some (.int ((if (hp.2.1 11 1) < (hp.2.1 12 ((3 * x2) + 1).toNatClampNeg) then 0 else 1) : Int32)), some (.int (x2 + 1))]) d_M_areInside_69 rfl (by rw [ic_1]) (by decide) rfl rfl ?_
          refine r_goto (tgt := 15) d_M_areInside_72 (by decide) ?_
          exact H
        refine r_aload_n (i := 0) d_M_areInside_54 rfl rfl ?_
        refine r_getR (b := 0) (r := 11) d_M_areInside_55 fl_M_40 (by decide) rfl rfl rfl ?_
        refine r_iconst d_M_areInside_58 ic_1 ?_
        refine r_iald (b := 11) (v := hp.2.1 11 1) d_M_areInside_59 (by decide) rfl (by unfold vp_in; decide) rfl ?_
        refine r_icmp_gt (tgt := 67) d_M_areInside_60 (by decide) (fun hc_60 => ?_) (fun hc_60 => ?_)
        · refine r_iconst d_M_areInside_67 ic_0 ?_
          exact J60 _ (((if_pos hc_60).trans rfl)).symm
        · refine r_iconst d_M_areInside_63 ic_1 ?_
          refine r_goto (tgt := 68) d_M_areInside_64 (by decide) ?_
          exact J60 _ (((if_neg hc_60).trans rfl)).symm
set_option maxHeartbeats 4000000 in
set_option maxRecDepth 20000 in
theorem w_M_takeHall {G : rx_Gh} {hp : rx_Hp} {F : Int32 → rx_Hp → Prop}  (H : Rn wM G 1 q_M_takeHall 50 [some (.ref 0), some (.int 0)] [] (rx_pf (rx_pf (rx_pf (rx_pf (rx_pf hp 0 23 (hp.1 0 19)) 0 24 (hp.2.1 11 0)) 0 25 (hp.2.1 11 1)) 0 26 (hp.2.1 11 2)) 0 27 (hp.2.1 11 3)) (rI F)) : Ev wM G 1 q_M_takeHall [.ref 0] hp (rI F) := by
  refine ev_of rfl (Nat.le_of_ble_eq_true rfl) rfl ?_
  show Rn wM G 1 q_M_takeHall 0 [some (.ref 0), none] [] hp (rI F)
  refine r_aload_n (i := 0) d_M_takeHall_0 rfl rfl ?_
  refine r_aload_n (i := 0) d_M_takeHall_1 rfl rfl ?_
  refine r_getI (b := 0) (v := hp.1 0 19) d_M_takeHall_2 fl_M_219 (by decide) rfl rfl rfl ?_
  refine r_putI (b := 0) d_M_takeHall_5 fp_M_236 ⟨rfl, rfl⟩ (by decide) rfl rfl ?_
  refine r_aload_n (i := 0) d_M_takeHall_8 rfl rfl ?_
  refine r_aload_n (i := 0) d_M_takeHall_9 rfl rfl ?_
  refine r_getR (b := 0) (r := 11) d_M_takeHall_10 fl_M_40 (by decide) rfl rfl rfl ?_
  refine r_iconst d_M_takeHall_13 ic_0 ?_
  refine r_iald (b := 11) (v := hp.2.1 11 0) d_M_takeHall_14 (by decide) rfl (by unfold vp_in; decide) rfl ?_
  refine r_putI (b := 0) d_M_takeHall_15 fp_M_239 ⟨rfl, rfl⟩ (by decide) rfl rfl ?_
  refine r_aload_n (i := 0) d_M_takeHall_18 rfl rfl ?_
  refine r_aload_n (i := 0) d_M_takeHall_19 rfl rfl ?_
  refine r_getR (b := 0) (r := 11) d_M_takeHall_20 fl_M_40 (by decide) rfl rfl rfl ?_
  refine r_iconst d_M_takeHall_23 ic_1 ?_
  refine r_iald (b := 11) (v := hp.2.1 11 1) d_M_takeHall_24 (by decide) rfl (by unfold vp_in; decide) rfl ?_
  refine r_putI (b := 0) d_M_takeHall_25 fp_M_242 ⟨rfl, rfl⟩ (by decide) rfl rfl ?_
  refine r_aload_n (i := 0) d_M_takeHall_28 rfl rfl ?_
  refine r_aload_n (i := 0) d_M_takeHall_29 rfl rfl ?_
  refine r_getR (b := 0) (r := 11) d_M_takeHall_30 fl_M_40 (by decide) rfl rfl rfl ?_
  refine r_iconst d_M_takeHall_33 ic_2 ?_
  refine r_iald (b := 11) (v := hp.2.1 11 2) d_M_takeHall_34 (by decide) rfl (by unfold vp_in; decide) rfl ?_
  refine r_putI (b := 0) d_M_takeHall_35 fp_M_245 ⟨rfl, rfl⟩ (by decide) rfl rfl ?_
  refine r_aload_n (i := 0) d_M_takeHall_38 rfl rfl ?_
  refine r_aload_n (i := 0) d_M_takeHall_39 rfl rfl ?_
  refine r_getR (b := 0) (r := 11) d_M_takeHall_40 fl_M_40 (by decide) rfl rfl rfl ?_
  refine r_iconst d_M_takeHall_43 ic_3 ?_
  refine r_iald (b := 11) (v := hp.2.1 11 3) d_M_takeHall_44 (by decide) rfl (by unfold vp_in; decide) rfl ?_
  refine r_putI (b := 0) d_M_takeHall_45 fp_M_248 ⟨rfl, rfl⟩ (by decide) rfl rfl ?_
  refine r_iconst d_M_takeHall_48 ic_0 ?_
  refine r_istore_n (i := 1) (lz := [some (.ref 0), some (.int 0)]) d_M_takeHall_49 rfl (by decide) rfl rfl ?_
  exact H
set_option maxHeartbeats 4000000 in
set_option maxRecDepth 20000 in
theorem w_M_takeHall_50 {G : rx_Gh} {hp : rx_Hp} {F : Int32 → rx_Hp → Prop} (x1 : Int32) (H : (6 ≤ x1 → F (hp.1 0 23) (rx_pf (rx_pf (rx_pf hp 0 42 0) 0 30 0) 0 44 0)) ∧ (¬ 6 ≤ x1 → vp_in (3 * x1) 18 ∧ (vp_in x1 6 ∧ (vp_in ((3 * x1) + 1) 18 ∧ (vp_in ((3 * x1) + 2) 18 ∧ (Rn wM G 1 q_M_takeHall 50 [some (.ref 0), some (.int (x1 + 1))] [] (rx_pa (rx_pa (rx_pa hp 13 x1.toNatClampNeg (hp.2.1 12 (3 * x1).toNatClampNeg)) 14 x1.toNatClampNeg (hp.2.1 12 ((3 * x1) + 1).toNatClampNeg)) 15 x1.toNatClampNeg (hp.2.1 12 ((3 * x1) + 2).toNatClampNeg)) (rI F))))))) : Rn wM G 1 q_M_takeHall 50 [some (.ref 0), some (.int x1)] [] hp (rI F) := by
  refine r_iload_n (i := 1) d_M_takeHall_50 rfl rfl ?_
  refine r_bipush d_M_takeHall_51 bp_6 ?_
  refine r_icmp_ge (tgt := 108) d_M_takeHall_53 (by decide) (fun hc_53 => ?_) (fun hc_53 => ?_)
  · replace H := H.1 hc_53
    refine r_aload_n (i := 0) d_M_takeHall_108 rfl rfl ?_
    refine r_iconst d_M_takeHall_109 ic_0 ?_
    refine r_putI (b := 0) d_M_takeHall_110 fp_M_251 ⟨rfl, rfl⟩ (by decide) rfl rfl ?_
    refine r_aload_n (i := 0) d_M_takeHall_113 rfl rfl ?_
    refine r_iconst d_M_takeHall_114 ic_0 ?_
    refine r_putI (b := 0) d_M_takeHall_115 fp_M_254 ⟨rfl, rfl⟩ (by decide) rfl rfl ?_
    refine r_aload_n (i := 0) d_M_takeHall_118 rfl rfl ?_
    refine r_iconst d_M_takeHall_119 ic_0 ?_
    refine r_putI (b := 0) d_M_takeHall_120 fp_M_257 ⟨rfl, rfl⟩ (by decide) rfl rfl ?_
    refine r_aload_n (i := 0) d_M_takeHall_123 rfl rfl ?_
    refine r_getI (b := 0) (v := hp.1 0 23) d_M_takeHall_124 fl_M_236 (by decide) rfl rfl rfl ?_
    exact rI_ret d_M_takeHall_127 rfl H
  · replace H := H.2 hc_53
    refine r_aload_n (i := 0) d_M_takeHall_56 rfl rfl ?_
    refine r_getR (b := 0) (r := 13) d_M_takeHall_57 fl_M_46 (by decide) rfl rfl rfl ?_
    refine r_iload_n (i := 1) d_M_takeHall_60 rfl rfl ?_
    refine r_aload_n (i := 0) d_M_takeHall_61 rfl rfl ?_
    refine r_getR (b := 0) (r := 12) d_M_takeHall_62 fl_M_43 (by decide) rfl rfl rfl ?_
    refine r_iconst d_M_takeHall_65 ic_3 ?_
    refine r_iload_n (i := 1) d_M_takeHall_66 rfl rfl ?_
    refine r_imul d_M_takeHall_67 ?_
    obtain ⟨hi_68, H⟩ := H
    refine r_iald (b := 12) (v := hp.2.1 12 (3 * x1).toNatClampNeg) d_M_takeHall_68 (by decide) rfl hi_68 rfl ?_
    obtain ⟨hi_69, H⟩ := H
    refine r_iast (b := 13) (i := x1.toNatClampNeg) d_M_takeHall_69 (by decide) rfl hi_69 rfl ?_
    refine r_aload_n (i := 0) d_M_takeHall_70 rfl rfl ?_
    refine r_getR (b := 0) (r := 14) d_M_takeHall_71 fl_M_49 (by decide) rfl rfl rfl ?_
    refine r_iload_n (i := 1) d_M_takeHall_74 rfl rfl ?_
    refine r_aload_n (i := 0) d_M_takeHall_75 rfl rfl ?_
    refine r_getR (b := 0) (r := 12) d_M_takeHall_76 fl_M_43 (by decide) rfl rfl rfl ?_
    refine r_iconst d_M_takeHall_79 ic_3 ?_
    refine r_iload_n (i := 1) d_M_takeHall_80 rfl rfl ?_
    refine r_imul d_M_takeHall_81 ?_
    refine r_iconst d_M_takeHall_82 ic_1 ?_
    refine r_iadd d_M_takeHall_83 ?_
    obtain ⟨hi_84, H⟩ := H
    refine r_iald (b := 12) (v := hp.2.1 12 ((3 * x1) + 1).toNatClampNeg) d_M_takeHall_84 (by decide) rfl hi_84 rfl ?_
    refine r_iast (b := 14) (i := x1.toNatClampNeg) d_M_takeHall_85 (by decide) rfl hi_69 rfl ?_
    refine r_aload_n (i := 0) d_M_takeHall_86 rfl rfl ?_
    refine r_getR (b := 0) (r := 15) d_M_takeHall_87 fl_M_52 (by decide) rfl rfl rfl ?_
    refine r_iload_n (i := 1) d_M_takeHall_90 rfl rfl ?_
    refine r_aload_n (i := 0) d_M_takeHall_91 rfl rfl ?_
    refine r_getR (b := 0) (r := 12) d_M_takeHall_92 fl_M_43 (by decide) rfl rfl rfl ?_
    refine r_iconst d_M_takeHall_95 ic_3 ?_
    refine r_iload_n (i := 1) d_M_takeHall_96 rfl rfl ?_
    refine r_imul d_M_takeHall_97 ?_
    refine r_iconst d_M_takeHall_98 ic_2 ?_
    refine r_iadd d_M_takeHall_99 ?_
    obtain ⟨hi_100, H⟩ := H
    refine r_iald (b := 12) (v := hp.2.1 12 ((3 * x1) + 2).toNatClampNeg) d_M_takeHall_100 (by decide) rfl hi_100 rfl ?_
    refine r_iast (b := 15) (i := x1.toNatClampNeg) d_M_takeHall_101 (by decide) rfl hi_69 rfl ?_
    refine r_iinc (v := x1 + 1) (lz := [some (.ref 0), some (.int (x1 + 1))]) d_M_takeHall_102 rfl (by rw [ic_1]) (by decide) rfl rfl ?_
    refine r_goto (tgt := 50) d_M_takeHall_105 (by decide) ?_
    exact H

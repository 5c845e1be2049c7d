theorem d_M_in_0 : decode q_M_in.2.1 0 = .ok (.iload_n 0, 1) := by decide +kernel
theorem d_M_in_1 : decode q_M_in.2.1 1 = .ok (.iload_n 1, 1) := by decide +kernel
theorem d_M_in_2 : decode q_M_in.2.1 2 = .ok (.if_icmp .lt 12, 3) := by decide +kernel
theorem d_M_in_14 : decode q_M_in.2.1 14 = .ok (.iconst 0, 1) := by decide +kernel
theorem d_M_in_5 : decode q_M_in.2.1 5 = .ok (.iload_n 0, 1) := by decide +kernel
theorem d_M_in_6 : decode q_M_in.2.1 6 = .ok (.iload_n 2, 1) := by decide +kernel
theorem d_M_in_7 : decode q_M_in.2.1 7 = .ok (.if_icmp .gt 7, 3) := by decide +kernel
theorem d_M_in_10 : decode q_M_in.2.1 10 = .ok (.iconst 1, 1) := by decide +kernel
theorem d_M_in_11 : decode q_M_in.2.1 11 = .ok (.goto 4, 3) := by decide +kernel
theorem d_M_in_15 : decode q_M_in.2.1 15 = .ok (.ireturn, 1) := by decide +kernel
theorem d_M_has_0 : decode q_M_has.2.1 0 = .ok (.iload_n 0, 1) := by decide +kernel
theorem d_M_has_1 : decode q_M_has.2.1 1 = .ok (.iload_n 1, 1) := by decide +kernel
theorem d_M_has_2 : decode q_M_has.2.1 2 = .ok (.ishr, 1) := by decide +kernel
theorem d_M_has_3 : decode q_M_has.2.1 3 = .ok (.iconst 1, 1) := by decide +kernel
theorem d_M_has_4 : decode q_M_has.2.1 4 = .ok (.iand, 1) := by decide +kernel
theorem d_M_has_5 : decode q_M_has.2.1 5 = .ok (.iconst 1, 1) := by decide +kernel
theorem d_M_has_6 : decode q_M_has.2.1 6 = .ok (.if_icmp .ne 7, 3) := by decide +kernel
theorem d_M_has_9 : decode q_M_has.2.1 9 = .ok (.iconst 1, 1) := by decide +kernel
theorem d_M_has_10 : decode q_M_has.2.1 10 = .ok (.goto 4, 3) := by decide +kernel
theorem d_M_has_13 : decode q_M_has.2.1 13 = .ok (.iconst 0, 1) := by decide +kernel
theorem d_M_has_14 : decode q_M_has.2.1 14 = .ok (.ireturn, 1) := by decide +kernel
theorem d_M_thrown_0 : decode q_M_thrown.2.1 0 = .ok (.aload_n 0, 1) := by decide +kernel
theorem d_M_thrown_1 : decode q_M_thrown.2.1 1 = .ok (.getfield 83, 3) := by decide +kernel
theorem fl_M_83 : rx_F "GlassRoomModel" 83 12 0 := ⟨(RX12, TX12, 45), rfl, by decide, (rx_s5 99 rfl rfl), rx_T12⟩
theorem d_M_thrown_4 : decode q_M_thrown.2.1 4 = .ok (.ireturn, 1) := by decide +kernel
theorem d_M_byteOf_0 : decode q_M_byteOf.2.1 0 = .ok (.iload 5, 2) := by decide +kernel
theorem d_M_byteOf_2 : decode q_M_byteOf.2.1 2 = .ok (.iconst 4, 1) := by decide +kernel
theorem d_M_byteOf_3 : decode q_M_byteOf.2.1 3 = .ok (.if_icmp .ge 7, 3) := by decide +kernel
theorem d_M_byteOf_10 : decode q_M_byteOf.2.1 10 = .ok (.iload 5, 2) := by decide +kernel
theorem d_M_byteOf_12 : decode q_M_byteOf.2.1 12 = .ok (.bipush 8, 2) := by decide +kernel
theorem d_M_byteOf_14 : decode q_M_byteOf.2.1 14 = .ok (.if_icmp .ge 7, 3) := by decide +kernel
theorem d_M_byteOf_21 : decode q_M_byteOf.2.1 21 = .ok (.iload 5, 2) := by decide +kernel
theorem d_M_byteOf_23 : decode q_M_byteOf.2.1 23 = .ok (.bipush 12, 2) := by decide +kernel
theorem bp_12 : (Int8.ofInt (12)).toInt32 = (12 : Int32) := by decide
theorem d_M_byteOf_25 : decode q_M_byteOf.2.1 25 = .ok (.if_icmp .ge 7, 3) := by decide +kernel
theorem d_M_byteOf_32 : decode q_M_byteOf.2.1 32 = .ok (.iload 5, 2) := by decide +kernel
theorem d_M_byteOf_34 : decode q_M_byteOf.2.1 34 = .ok (.bipush 16, 2) := by decide +kernel
theorem d_M_byteOf_36 : decode q_M_byteOf.2.1 36 = .ok (.if_icmp .ge 7, 3) := by decide +kernel
theorem d_M_byteOf_43 : decode q_M_byteOf.2.1 43 = .ok (.iload 4, 2) := by decide +kernel
theorem d_M_byteOf_39 : decode q_M_byteOf.2.1 39 = .ok (.iload_n 3, 1) := by decide +kernel
theorem d_M_byteOf_40 : decode q_M_byteOf.2.1 40 = .ok (.goto 5, 3) := by decide +kernel
theorem d_M_byteOf_28 : decode q_M_byteOf.2.1 28 = .ok (.iload_n 2, 1) := by decide +kernel
theorem d_M_byteOf_29 : decode q_M_byteOf.2.1 29 = .ok (.goto 16, 3) := by decide +kernel
theorem d_M_byteOf_17 : decode q_M_byteOf.2.1 17 = .ok (.iload_n 1, 1) := by decide +kernel
theorem d_M_byteOf_18 : decode q_M_byteOf.2.1 18 = .ok (.goto 27, 3) := by decide +kernel
theorem d_M_byteOf_6 : decode q_M_byteOf.2.1 6 = .ok (.iload_n 0, 1) := by decide +kernel
theorem d_M_byteOf_7 : decode q_M_byteOf.2.1 7 = .ok (.goto 38, 3) := by decide +kernel
theorem d_M_byteOf_45 : decode q_M_byteOf.2.1 45 = .ok (.istore 6, 2) := by decide +kernel
theorem d_M_byteOf_47 : decode q_M_byteOf.2.1 47 = .ok (.iload 6, 2) := by decide +kernel
theorem d_M_byteOf_49 : decode q_M_byteOf.2.1 49 = .ok (.bipush 24, 2) := by decide +kernel
theorem bp_24 : (Int8.ofInt (24)).toInt32 = (24 : Int32) := by decide
theorem d_M_byteOf_51 : decode q_M_byteOf.2.1 51 = .ok (.bipush 8, 2) := by decide +kernel
theorem d_M_byteOf_53 : decode q_M_byteOf.2.1 53 = .ok (.iload 5, 2) := by decide +kernel
theorem d_M_byteOf_55 : decode q_M_byteOf.2.1 55 = .ok (.iconst 4, 1) := by decide +kernel
theorem d_M_byteOf_56 : decode q_M_byteOf.2.1 56 = .ok (.irem, 1) := by decide +kernel
theorem d_M_byteOf_57 : decode q_M_byteOf.2.1 57 = .ok (.imul, 1) := by decide +kernel
theorem d_M_byteOf_58 : decode q_M_byteOf.2.1 58 = .ok (.isub, 1) := by decide +kernel
theorem d_M_byteOf_59 : decode q_M_byteOf.2.1 59 = .ok (.ishr, 1) := by decide +kernel
theorem d_M_byteOf_60 : decode q_M_byteOf.2.1 60 = .ok (.sipush 255, 3) := by decide +kernel
theorem sp_255 : (Int16.ofInt (255)).toInt32 = (255 : Int32) := by decide
theorem d_M_byteOf_63 : decode q_M_byteOf.2.1 63 = .ok (.iand, 1) := by decide +kernel
theorem d_M_byteOf_64 : decode q_M_byteOf.2.1 64 = .ok (.ireturn, 1) := by decide +kernel
theorem d_M_end_0 : decode q_M_end.2.1 0 = .ok (.iload_n 1, 1) := by decide +kernel
theorem d_M_end_1 : decode q_M_end.2.1 1 = .ok (.ifCond .lt 11, 3) := by decide +kernel
theorem d_M_end_12 : decode q_M_end.2.1 12 = .ok (.iconst 0, 1) := by decide +kernel
theorem d_M_end_13 : decode q_M_end.2.1 13 = .ok (.ireturn, 1) := by decide +kernel
theorem d_M_end_4 : decode q_M_end.2.1 4 = .ok (.iload_n 1, 1) := by decide +kernel
theorem d_M_end_5 : decode q_M_end.2.1 5 = .ok (.aload_n 0, 1) := by decide +kernel
theorem d_M_end_6 : decode q_M_end.2.1 6 = .ok (.getfield 90, 3) := by decide +kernel
theorem fl_M_90 : rx_F "GlassRoomModel" 90 12 2 := ⟨(RX12, TX12, 45), rfl, by decide, (rx_s5 101 rfl rfl), rx_T12⟩
theorem d_M_end_9 : decode q_M_end.2.1 9 = .ok (.if_icmp .le 5, 3) := by decide +kernel
theorem d_M_end_14 : decode q_M_end.2.1 14 = .ok (.aload_n 0, 1) := by decide +kernel
theorem d_M_end_15 : decode q_M_end.2.1 15 = .ok (.iload_n 1, 1) := by decide +kernel
theorem d_M_end_16 : decode q_M_end.2.1 16 = .ok (.putfield 90, 3) := by decide +kernel
theorem fp_M_90 : rx_FP "GlassRoomModel" 90 12 2 (.int) := ⟨(RX12, TX12, 45), tyX12, rfl, by decide, (rx_s5 101 rfl rfl), rx_T12, tyX12_ok, nmX12, rfl, rfl⟩
theorem d_M_end_19 : decode q_M_end.2.1 19 = .ok (.iconst 1, 1) := by decide +kernel
theorem d_M_end_20 : decode q_M_end.2.1 20 = .ok (.ireturn, 1) := by decide +kernel
theorem d_M_here_0 : decode q_M_here.2.1 0 = .ok (.aload_n 0, 1) := by decide +kernel
theorem d_M_here_1 : decode q_M_here.2.1 1 = .ok (.getfield 93, 3) := by decide +kernel
theorem fl_M_93 : rx_F "GlassRoomModel" 93 12 3 := ⟨(RX12, TX12, 45), rfl, by decide, (rx_s5 102 rfl rfl), rx_T12⟩
theorem d_M_here_4 : decode q_M_here.2.1 4 = .ok (.aload_n 0, 1) := by decide +kernel
theorem d_M_here_5 : decode q_M_here.2.1 5 = .ok (.getfield 90, 3) := by decide +kernel
theorem d_M_here_8 : decode q_M_here.2.1 8 = .ok (.if_icmp .ge 15, 3) := by decide +kernel
theorem d_M_here_23 : decode q_M_here.2.1 23 = .ok (.iconst (-1), 1) := by decide +kernel
theorem d_M_here_11 : decode q_M_here.2.1 11 = .ok (.aload_n 0, 1) := by decide +kernel
theorem d_M_here_12 : decode q_M_here.2.1 12 = .ok (.getfield 9, 3) := by decide +kernel
theorem fl_M_9 : rx_F "GlassRoomModel" 9 12 1 := ⟨(RX12, TX12, 45), rfl, by decide, (rx_s5 100 rfl rfl), rx_T12⟩
theorem d_M_here_15 : decode q_M_here.2.1 15 = .ok (.aload_n 0, 1) := by decide +kernel
theorem d_M_here_16 : decode q_M_here.2.1 16 = .ok (.getfield 93, 3) := by decide +kernel
theorem d_M_here_24 : decode q_M_here.2.1 24 = .ok (.ireturn, 1) := by decide +kernel
theorem d_M_here_19 : decode q_M_here.2.1 19 = .ok (.iaload, 1) := by decide +kernel
theorem d_M_here_20 : decode q_M_here.2.1 20 = .ok (.goto 4, 3) := by decide +kernel
theorem d_M_bad_0 : decode q_M_bad.2.1 0 = .ok (.aload_n 0, 1) := by decide +kernel
theorem d_M_bad_1 : decode q_M_bad.2.1 1 = .ok (.aload_n 0, 1) := by decide +kernel
theorem d_M_bad_2 : decode q_M_bad.2.1 2 = .ok (.getfield 100, 3) := by decide +kernel
theorem fl_M_100 : rx_F "GlassRoomModel" 100 12 4 := ⟨(RX12, TX12, 45), rfl, by decide, (rx_s5 103 rfl rfl), rx_T12⟩
theorem d_M_bad_5 : decode q_M_bad.2.1 5 = .ok (.iconst (-1), 1) := by decide +kernel
theorem d_M_bad_6 : decode q_M_bad.2.1 6 = .ok (.if_icmp .ne 10, 3) := by decide +kernel
theorem d_M_bad_9 : decode q_M_bad.2.1 9 = .ok (.aload_n 0, 1) := by decide +kernel
theorem d_M_bad_10 : decode q_M_bad.2.1 10 = .ok (.getfield 93, 3) := by decide +kernel
theorem d_M_bad_13 : decode q_M_bad.2.1 13 = .ok (.goto 7, 3) := by decide +kernel
theorem d_M_bad_16 : decode q_M_bad.2.1 16 = .ok (.aload_n 0, 1) := by decide +kernel
theorem d_M_bad_17 : decode q_M_bad.2.1 17 = .ok (.getfield 100, 3) := by decide +kernel
theorem d_M_bad_20 : decode q_M_bad.2.1 20 = .ok (.putfield 100, 3) := by decide +kernel
theorem fp_M_100 : rx_FP "GlassRoomModel" 100 12 4 (.int) := ⟨(RX12, TX12, 45), tyX12, rfl, by decide, (rx_s5 103 rfl rfl), rx_T12, tyX12_ok, nmX12, rfl, rfl⟩
theorem d_M_bad_23 : decode q_M_bad.2.1 23 = .ok (.return_, 1) := by decide +kernel
theorem d_M_isDigit_0 : decode q_M_isDigit.2.1 0 = .ok (.iload_n 0, 1) := by decide +kernel
theorem d_M_isDigit_1 : decode q_M_isDigit.2.1 1 = .ok (.bipush 48, 2) := by decide +kernel
theorem bp_48 : (Int8.ofInt (48)).toInt32 = (48 : Int32) := by decide
theorem d_M_isDigit_3 : decode q_M_isDigit.2.1 3 = .ok (.if_icmp .lt 13, 3) := by decide +kernel
theorem d_M_isDigit_16 : decode q_M_isDigit.2.1 16 = .ok (.iconst 0, 1) := by decide +kernel
theorem d_M_isDigit_6 : decode q_M_isDigit.2.1 6 = .ok (.iload_n 0, 1) := by decide +kernel
theorem d_M_isDigit_7 : decode q_M_isDigit.2.1 7 = .ok (.bipush 57, 2) := by decide +kernel
theorem bp_57 : (Int8.ofInt (57)).toInt32 = (57 : Int32) := by decide
theorem d_M_isDigit_9 : decode q_M_isDigit.2.1 9 = .ok (.if_icmp .gt 7, 3) := by decide +kernel
theorem d_M_isDigit_12 : decode q_M_isDigit.2.1 12 = .ok (.iconst 1, 1) := by decide +kernel
theorem d_M_isDigit_13 : decode q_M_isDigit.2.1 13 = .ok (.goto 4, 3) := by decide +kernel
theorem d_M_isDigit_17 : decode q_M_isDigit.2.1 17 = .ok (.ireturn, 1) := by decide +kernel
theorem d_M_put_0 : decode q_M_put.2.1 0 = .ok (.aload_n 0, 1) := by decide +kernel
theorem d_M_put_1 : decode q_M_put.2.1 1 = .ok (.getfield 13, 3) := by decide +kernel
theorem fl_M_13 : rx_F "GlassRoomModel" 13 12 6 := ⟨(RX12, TX12, 45), rfl, by decide, (rx_s5 105 rfl rfl), rx_T12⟩
theorem d_M_put_4 : decode q_M_put.2.1 4 = .ok (.sipush 340, 3) := by decide +kernel
theorem sp_340 : (Int16.ofInt (340)).toInt32 = (340 : Int32) := by decide
theorem d_M_put_7 : decode q_M_put.2.1 7 = .ok (.aload_n 0, 1) := by decide +kernel
theorem d_M_put_8 : decode q_M_put.2.1 8 = .ok (.getfield 103, 3) := by decide +kernel
theorem fl_M_103 : rx_F "GlassRoomModel" 103 12 14 := ⟨(RX12, TX12, 45), rfl, by decide, (rx_s5 113 rfl rfl), rx_T12⟩
theorem d_M_put_11 : decode q_M_put.2.1 11 = .ok (.imul, 1) := by decide +kernel
theorem d_M_put_12 : decode q_M_put.2.1 12 = .ok (.aload_n 0, 1) := by decide +kernel
theorem d_M_put_13 : decode q_M_put.2.1 13 = .ok (.getfield 19, 3) := by decide +kernel
theorem fl_M_19 : rx_F "GlassRoomModel" 19 12 8 := ⟨(RX12, TX12, 45), rfl, by decide, (rx_s5 107 rfl rfl), rx_T12⟩
theorem d_M_put_16 : decode q_M_put.2.1 16 = .ok (.aload_n 0, 1) := by decide +kernel
theorem d_M_put_17 : decode q_M_put.2.1 17 = .ok (.getfield 103, 3) := by decide +kernel
theorem d_M_put_20 : decode q_M_put.2.1 20 = .ok (.iaload, 1) := by decide +kernel
theorem d_M_put_21 : decode q_M_put.2.1 21 = .ok (.iadd, 1) := by decide +kernel
theorem d_M_put_22 : decode q_M_put.2.1 22 = .ok (.iload_n 1, 1) := by decide +kernel
theorem d_M_put_23 : decode q_M_put.2.1 23 = .ok (.iastore, 1) := by decide +kernel
theorem d_M_put_24 : decode q_M_put.2.1 24 = .ok (.aload_n 0, 1) := by decide +kernel
theorem d_M_put_25 : decode q_M_put.2.1 25 = .ok (.getfield 16, 3) := by decide +kernel
theorem fl_M_16 : rx_F "GlassRoomModel" 16 12 7 := ⟨(RX12, TX12, 45), rfl, by decide, (rx_s5 106 rfl rfl), rx_T12⟩
theorem d_M_put_28 : decode q_M_put.2.1 28 = .ok (.sipush 340, 3) := by decide +kernel
theorem d_M_put_31 : decode q_M_put.2.1 31 = .ok (.aload_n 0, 1) := by decide +kernel
theorem d_M_put_32 : decode q_M_put.2.1 32 = .ok (.getfield 103, 3) := by decide +kernel
theorem d_M_put_35 : decode q_M_put.2.1 35 = .ok (.imul, 1) := by decide +kernel
theorem d_M_put_36 : decode q_M_put.2.1 36 = .ok (.aload_n 0, 1) := by decide +kernel
theorem d_M_put_37 : decode q_M_put.2.1 37 = .ok (.getfield 19, 3) := by decide +kernel
theorem d_M_put_40 : decode q_M_put.2.1 40 = .ok (.aload_n 0, 1) := by decide +kernel
theorem d_M_put_41 : decode q_M_put.2.1 41 = .ok (.getfield 103, 3) := by decide +kernel
theorem d_M_put_44 : decode q_M_put.2.1 44 = .ok (.iaload, 1) := by decide +kernel
theorem d_M_put_45 : decode q_M_put.2.1 45 = .ok (.iadd, 1) := by decide +kernel
theorem d_M_put_46 : decode q_M_put.2.1 46 = .ok (.iload_n 2, 1) := by decide +kernel
theorem d_M_put_47 : decode q_M_put.2.1 47 = .ok (.iastore, 1) := by decide +kernel
theorem d_M_put_48 : decode q_M_put.2.1 48 = .ok (.aload_n 0, 1) := by decide +kernel
theorem d_M_put_49 : decode q_M_put.2.1 49 = .ok (.getfield 19, 3) := by decide +kernel
theorem d_M_put_52 : decode q_M_put.2.1 52 = .ok (.aload_n 0, 1) := by decide +kernel
theorem d_M_put_53 : decode q_M_put.2.1 53 = .ok (.getfield 103, 3) := by decide +kernel
theorem d_M_put_56 : decode q_M_put.2.1 56 = .ok (.dup2, 1) := by decide +kernel
theorem d_M_put_57 : decode q_M_put.2.1 57 = .ok (.iaload, 1) := by decide +kernel
theorem d_M_put_58 : decode q_M_put.2.1 58 = .ok (.iconst 1, 1) := by decide +kernel
theorem d_M_put_59 : decode q_M_put.2.1 59 = .ok (.iadd, 1) := by decide +kernel
theorem d_M_put_60 : decode q_M_put.2.1 60 = .ok (.iastore, 1) := by decide +kernel
theorem d_M_put_61 : decode q_M_put.2.1 61 = .ok (.return_, 1) := by decide +kernel
theorem d_M_letterOf_0 : decode q_M_letterOf.2.1 0 = .ok (.iload_n 0, 1) := by decide +kernel
theorem d_M_letterOf_1 : decode q_M_letterOf.2.1 1 = .ok (.bipush 110, 2) := by decide +kernel
theorem bp_110 : (Int8.ofInt (110)).toInt32 = (110 : Int32) := by decide
theorem d_M_letterOf_3 : decode q_M_letterOf.2.1 3 = .ok (.if_icmp .ne 7, 3) := by decide +kernel
theorem d_M_letterOf_6 : decode q_M_letterOf.2.1 6 = .ok (.iconst 0, 1) := by decide +kernel
theorem d_M_letterOf_7 : decode q_M_letterOf.2.1 7 = .ok (.goto 54, 3) := by decide +kernel
theorem d_M_letterOf_10 : decode q_M_letterOf.2.1 10 = .ok (.iload_n 0, 1) := by decide +kernel
theorem d_M_letterOf_11 : decode q_M_letterOf.2.1 11 = .ok (.bipush 102, 2) := by decide +kernel
theorem bp_102 : (Int8.ofInt (102)).toInt32 = (102 : Int32) := by decide
theorem d_M_letterOf_13 : decode q_M_letterOf.2.1 13 = .ok (.if_icmp .ne 7, 3) := by decide +kernel
theorem d_M_letterOf_16 : decode q_M_letterOf.2.1 16 = .ok (.iconst 1, 1) := by decide +kernel
theorem d_M_letterOf_17 : decode q_M_letterOf.2.1 17 = .ok (.goto 44, 3) := by decide +kernel
theorem d_M_letterOf_20 : decode q_M_letterOf.2.1 20 = .ok (.iload_n 0, 1) := by decide +kernel
theorem d_M_letterOf_21 : decode q_M_letterOf.2.1 21 = .ok (.bipush 116, 2) := by decide +kernel
theorem bp_116 : (Int8.ofInt (116)).toInt32 = (116 : Int32) := by decide
theorem d_M_letterOf_23 : decode q_M_letterOf.2.1 23 = .ok (.if_icmp .ne 7, 3) := by decide +kernel
theorem d_M_letterOf_26 : decode q_M_letterOf.2.1 26 = .ok (.iconst 2, 1) := by decide +kernel
theorem d_M_letterOf_27 : decode q_M_letterOf.2.1 27 = .ok (.goto 34, 3) := by decide +kernel
theorem d_M_letterOf_30 : decode q_M_letterOf.2.1 30 = .ok (.iload_n 0, 1) := by decide +kernel
theorem d_M_letterOf_31 : decode q_M_letterOf.2.1 31 = .ok (.bipush 105, 2) := by decide +kernel
theorem bp_105 : (Int8.ofInt (105)).toInt32 = (105 : Int32) := by decide
theorem d_M_letterOf_33 : decode q_M_letterOf.2.1 33 = .ok (.if_icmp .ne 7, 3) := by decide +kernel
theorem d_M_letterOf_36 : decode q_M_letterOf.2.1 36 = .ok (.iconst 3, 1) := by decide +kernel
theorem d_M_letterOf_37 : decode q_M_letterOf.2.1 37 = .ok (.goto 24, 3) := by decide +kernel
theorem d_M_letterOf_40 : decode q_M_letterOf.2.1 40 = .ok (.iload_n 0, 1) := by decide +kernel
theorem d_M_letterOf_41 : decode q_M_letterOf.2.1 41 = .ok (.bipush 106, 2) := by decide +kernel
theorem bp_106 : (Int8.ofInt (106)).toInt32 = (106 : Int32) := by decide
theorem d_M_letterOf_43 : decode q_M_letterOf.2.1 43 = .ok (.if_icmp .ne 7, 3) := by decide +kernel
theorem d_M_letterOf_46 : decode q_M_letterOf.2.1 46 = .ok (.iconst 4, 1) := by decide +kernel
theorem d_M_letterOf_47 : decode q_M_letterOf.2.1 47 = .ok (.goto 14, 3) := by decide +kernel
theorem d_M_letterOf_50 : decode q_M_letterOf.2.1 50 = .ok (.iload_n 0, 1) := by decide +kernel
theorem d_M_letterOf_51 : decode q_M_letterOf.2.1 51 = .ok (.bipush 98, 2) := by decide +kernel
theorem bp_98 : (Int8.ofInt (98)).toInt32 = (98 : Int32) := by decide
theorem d_M_letterOf_53 : decode q_M_letterOf.2.1 53 = .ok (.if_icmp .ne 7, 3) := by decide +kernel
theorem d_M_letterOf_56 : decode q_M_letterOf.2.1 56 = .ok (.iconst 5, 1) := by decide +kernel
theorem ic_5 : Int32.ofInt (5) = (5 : Int32) := by decide
theorem d_M_letterOf_57 : decode q_M_letterOf.2.1 57 = .ok (.goto 4, 3) := by decide +kernel
theorem d_M_letterOf_60 : decode q_M_letterOf.2.1 60 = .ok (.iconst (-1), 1) := by decide +kernel
theorem d_M_letterOf_61 : decode q_M_letterOf.2.1 61 = .ok (.ireturn, 1) := by decide +kernel
theorem d_M_opens_0 : decode q_M_opens.2.1 0 = .ok (.aload_n 0, 1) := by decide +kernel
theorem d_M_opens_1 : decode q_M_opens.2.1 1 = .ok (.getfield 106, 3) := by decide +kernel
theorem fl_M_106 : rx_F "GlassRoomModel" 106 12 5 := ⟨(RX12, TX12, 45), rfl, by decide, (rx_s5 104 rfl rfl), rx_T12⟩
theorem d_M_opens_4 : decode q_M_opens.2.1 4 = .ok (.bipush 6, 2) := by decide +kernel
theorem bp_6 : (Int8.ofInt (6)).toInt32 = (6 : Int32) := by decide
theorem d_M_opens_6 : decode q_M_opens.2.1 6 = .ok (.if_icmp .ne 7, 3) := by decide +kernel
theorem d_M_opens_9 : decode q_M_opens.2.1 9 = .ok (.aload_n 0, 1) := by decide +kernel
theorem d_M_opens_10 : decode q_M_opens.2.1 10 = .ok (.invokevirtual 109, 3) := by decide +kernel
theorem ml_M_109 : rx_CV "GlassRoomModel" 109 q_M_bad 0 := ⟨⟨(rx_s6 49 rfl rfl), (rx_s6 51 rfl rfl), (rx_s0 28 rfl rfl)⟩, ⟨(rx_s1 13 rfl rfl), q_M_bad_k, ⟨by decide, by decide, by decide +kernel⟩, by decide⟩⟩
theorem d_M_opens_13 : decode q_M_opens.2.1 13 = .ok (.aload_n 0, 1) := by decide +kernel
theorem d_M_opens_14 : decode q_M_opens.2.1 14 = .ok (.dup, 1) := by decide +kernel
theorem d_M_opens_15 : decode q_M_opens.2.1 15 = .ok (.getfield 106, 3) := by decide +kernel
theorem d_M_opens_18 : decode q_M_opens.2.1 18 = .ok (.iconst 1, 1) := by decide +kernel
theorem d_M_opens_19 : decode q_M_opens.2.1 19 = .ok (.iadd, 1) := by decide +kernel
theorem d_M_opens_20 : decode q_M_opens.2.1 20 = .ok (.putfield 106, 3) := by decide +kernel
theorem fp_M_106 : rx_FP "GlassRoomModel" 106 12 5 (.int) := ⟨(RX12, TX12, 45), tyX12, rfl, by decide, (rx_s5 104 rfl rfl), rx_T12, tyX12_ok, nmX12, rfl, rfl⟩
theorem d_M_opens_23 : decode q_M_opens.2.1 23 = .ok (.aload_n 0, 1) := by decide +kernel
theorem d_M_opens_24 : decode q_M_opens.2.1 24 = .ok (.dup, 1) := by decide +kernel
theorem d_M_opens_25 : decode q_M_opens.2.1 25 = .ok (.getfield 93, 3) := by decide +kernel
theorem d_M_opens_28 : decode q_M_opens.2.1 28 = .ok (.iconst 1, 1) := by decide +kernel
theorem d_M_opens_29 : decode q_M_opens.2.1 29 = .ok (.iadd, 1) := by decide +kernel
theorem d_M_opens_30 : decode q_M_opens.2.1 30 = .ok (.putfield 93, 3) := by decide +kernel
theorem fp_M_93 : rx_FP "GlassRoomModel" 93 12 3 (.int) := ⟨(RX12, TX12, 45), tyX12, rfl, by decide, (rx_s5 102 rfl rfl), rx_T12, tyX12_ok, nmX12, rfl, rfl⟩
theorem d_M_opens_33 : decode q_M_opens.2.1 33 = .ok (.return_, 1) := by decide +kernel
theorem d_M_isSign_0 : decode q_M_isSign.2.1 0 = .ok (.iload_n 0, 1) := by decide +kernel
theorem d_M_isSign_1 : decode q_M_isSign.2.1 1 = .ok (.bipush 61, 2) := by decide +kernel
theorem bp_61 : (Int8.ofInt (61)).toInt32 = (61 : Int32) := by decide
theorem d_M_isSign_3 : decode q_M_isSign.2.1 3 = .ok (.if_icmp .eq 15, 3) := by decide +kernel
theorem d_M_isSign_18 : decode q_M_isSign.2.1 18 = .ok (.iconst 1, 1) := by decide +kernel
theorem d_M_isSign_19 : decode q_M_isSign.2.1 19 = .ok (.goto 4, 3) := by decide +kernel
theorem d_M_isSign_6 : decode q_M_isSign.2.1 6 = .ok (.iload_n 0, 1) := by decide +kernel
theorem d_M_isSign_7 : decode q_M_isSign.2.1 7 = .ok (.bipush 60, 2) := by decide +kernel
theorem bp_60 : (Int8.ofInt (60)).toInt32 = (60 : Int32) := by decide
theorem d_M_isSign_9 : decode q_M_isSign.2.1 9 = .ok (.if_icmp .eq 9, 3) := by decide +kernel
theorem d_M_isSign_12 : decode q_M_isSign.2.1 12 = .ok (.iload_n 0, 1) := by decide +kernel
theorem d_M_isSign_13 : decode q_M_isSign.2.1 13 = .ok (.bipush 62, 2) := by decide +kernel
theorem bp_62 : (Int8.ofInt (62)).toInt32 = (62 : Int32) := by decide
theorem d_M_isSign_15 : decode q_M_isSign.2.1 15 = .ok (.if_icmp .ne 7, 3) := by decide +kernel
theorem d_M_isSign_22 : decode q_M_isSign.2.1 22 = .ok (.iconst 0, 1) := by decide +kernel
theorem d_M_isSign_23 : decode q_M_isSign.2.1 23 = .ok (.ireturn, 1) := by decide +kernel
theorem d_M_open_0 : decode q_M_open.2.1 0 = .ok (.aload_n 0, 1) := by decide +kernel
theorem d_M_open_1 : decode q_M_open.2.1 1 = .ok (.iload_n 1, 1) := by decide +kernel
theorem d_M_open_2 : decode q_M_open.2.1 2 = .ok (.putfield 103, 3) := by decide +kernel
theorem fp_M_103 : rx_FP "GlassRoomModel" 103 12 14 (.int) := ⟨(RX12, TX12, 45), tyX12, rfl, by decide, (rx_s5 113 rfl rfl), rx_T12, tyX12_ok, nmX12, rfl, rfl⟩
theorem d_M_open_5 : decode q_M_open.2.1 5 = .ok (.aload_n 0, 1) := by decide +kernel
theorem d_M_open_6 : decode q_M_open.2.1 6 = .ok (.iconst 0, 1) := by decide +kernel
theorem d_M_open_7 : decode q_M_open.2.1 7 = .ok (.putfield 93, 3) := by decide +kernel
theorem d_M_open_10 : decode q_M_open.2.1 10 = .ok (.aload_n 0, 1) := by decide +kernel
theorem d_M_open_11 : decode q_M_open.2.1 11 = .ok (.iconst (-1), 1) := by decide +kernel
theorem d_M_open_12 : decode q_M_open.2.1 12 = .ok (.putfield 100, 3) := by decide +kernel
theorem d_M_open_15 : decode q_M_open.2.1 15 = .ok (.aload_n 0, 1) := by decide +kernel
theorem d_M_open_16 : decode q_M_open.2.1 16 = .ok (.iconst 0, 1) := by decide +kernel
theorem d_M_open_17 : decode q_M_open.2.1 17 = .ok (.putfield 106, 3) := by decide +kernel
theorem d_M_open_20 : decode q_M_open.2.1 20 = .ok (.aload_n 0, 1) := by decide +kernel
theorem d_M_open_21 : decode q_M_open.2.1 21 = .ok (.getfield 19, 3) := by decide +kernel
theorem d_M_open_24 : decode q_M_open.2.1 24 = .ok (.iload_n 1, 1) := by decide +kernel
theorem d_M_open_25 : decode q_M_open.2.1 25 = .ok (.iconst 0, 1) := by decide +kernel
theorem d_M_open_26 : decode q_M_open.2.1 26 = .ok (.iastore, 1) := by decide +kernel
theorem d_M_open_27 : decode q_M_open.2.1 27 = .ok (.aload_n 0, 1) := by decide +kernel
theorem d_M_open_28 : decode q_M_open.2.1 28 = .ok (.getfield 22, 3) := by decide +kernel
theorem fl_M_22 : rx_F "GlassRoomModel" 22 12 9 := ⟨(RX12, TX12, 45), rfl, by decide, (rx_s5 108 rfl rfl), rx_T12⟩
theorem d_M_open_31 : decode q_M_open.2.1 31 = .ok (.iload_n 1, 1) := by decide +kernel
theorem d_M_open_32 : decode q_M_open.2.1 32 = .ok (.iconst 0, 1) := by decide +kernel
theorem d_M_open_33 : decode q_M_open.2.1 33 = .ok (.iastore, 1) := by decide +kernel
theorem d_M_open_34 : decode q_M_open.2.1 34 = .ok (.return_, 1) := by decide +kernel
theorem d_M_bounded_0 : decode q_M_bounded.2.1 0 = .ok (.ldc2_w 173, 3) := by decide +kernel
theorem ck_M_173 : Cond.constantLong "GlassRoomModel" 173 (-1000000) ∈ rx_gw := (rx_s7 12 rfl rfl)
theorem d_M_bounded_3 : decode q_M_bounded.2.1 3 = .ok (.ldc2_w 175, 3) := by decide +kernel
theorem ck_M_175 : Cond.constantLong "GlassRoomModel" 175 (1000000) ∈ rx_gw := (rx_s7 13 rfl rfl)
theorem d_M_bounded_6 : decode q_M_bounded.2.1 6 = .ok (.lload_n 0, 1) := by decide +kernel
theorem d_M_bounded_7 : decode q_M_bounded.2.1 7 = .ok (.invokestatic 177, 3) := by decide +kernel
theorem ml_M_177 : rx_CS "GlassRoomModel" 177 q_Mt_min1 2 := ⟨⟨(rx_s7 14 rfl rfl), (rx_s4 10 rfl rfl)⟩, ⟨(rx_s1 16 rfl rfl), q_Mt_min1_k, ⟨by decide, by decide, by decide +kernel⟩, by decide⟩⟩
theorem d_M_bounded_10 : decode q_M_bounded.2.1 10 = .ok (.invokestatic 183, 3) := by decide +kernel
theorem ml_M_183 : rx_CS "GlassRoomModel" 183 q_Mt_max1 2 := ⟨⟨(rx_s7 15 rfl rfl), (rx_s4 13 rfl rfl)⟩, ⟨(rx_s1 16 rfl rfl), q_Mt_max1_k, ⟨by decide, by decide, by decide +kernel⟩, by decide⟩⟩
theorem d_M_bounded_13 : decode q_M_bounded.2.1 13 = .ok (.l2i, 1) := by decide +kernel
theorem d_M_bounded_14 : decode q_M_bounded.2.1 14 = .ok (.ireturn, 1) := by decide +kernel
theorem d_M_worked_0 : decode q_M_worked.2.1 0 = .ok (.iload_n 0, 1) := by decide +kernel
theorem d_M_worked_1 : decode q_M_worked.2.1 1 = .ok (.tableswitch 143 2 10 #[51, 58, 65, 72, 89, 101, 113, 143, 125], 51) := by decide +kernel
theorem d_M_worked_52 : decode q_M_worked.2.1 52 = .ok (.lload_n 1, 1) := by decide +kernel
theorem d_M_worked_53 : decode q_M_worked.2.1 53 = .ok (.lload_n 3, 1) := by decide +kernel
theorem d_M_worked_54 : decode q_M_worked.2.1 54 = .ok (.ladd, 1) := by decide +kernel
theorem d_M_worked_55 : decode q_M_worked.2.1 55 = .ok (.invokestatic 186, 3) := by decide +kernel
theorem ml_M_186 : rx_CS "GlassRoomModel" 186 q_M_bounded 1 := ⟨⟨(rx_s7 9 rfl rfl), (rx_s7 10 rfl rfl)⟩, ⟨(rx_s1 13 rfl rfl), q_M_bounded_k, ⟨by decide, by decide, by decide +kernel⟩, by decide⟩⟩
theorem d_M_worked_58 : decode q_M_worked.2.1 58 = .ok (.ireturn, 1) := by decide +kernel
theorem d_M_worked_59 : decode q_M_worked.2.1 59 = .ok (.lload_n 1, 1) := by decide +kernel
theorem d_M_worked_60 : decode q_M_worked.2.1 60 = .ok (.lload_n 3, 1) := by decide +kernel
theorem d_M_worked_61 : decode q_M_worked.2.1 61 = .ok (.lsub, 1) := by decide +kernel
theorem d_M_worked_62 : decode q_M_worked.2.1 62 = .ok (.invokestatic 186, 3) := by decide +kernel
theorem d_M_worked_65 : decode q_M_worked.2.1 65 = .ok (.ireturn, 1) := by decide +kernel
theorem d_M_worked_66 : decode q_M_worked.2.1 66 = .ok (.lload_n 1, 1) := by decide +kernel
theorem d_M_worked_67 : decode q_M_worked.2.1 67 = .ok (.lload_n 3, 1) := by decide +kernel
theorem d_M_worked_68 : decode q_M_worked.2.1 68 = .ok (.lmul, 1) := by decide +kernel
theorem d_M_worked_69 : decode q_M_worked.2.1 69 = .ok (.invokestatic 186, 3) := by decide +kernel
theorem d_M_worked_72 : decode q_M_worked.2.1 72 = .ok (.ireturn, 1) := by decide +kernel
theorem d_M_worked_73 : decode q_M_worked.2.1 73 = .ok (.lload_n 3, 1) := by decide +kernel
theorem d_M_worked_74 : decode q_M_worked.2.1 74 = .ok (.lconst 0, 1) := by decide +kernel
theorem d_M_worked_75 : decode q_M_worked.2.1 75 = .ok (.lcmp, 1) := by decide +kernel
theorem d_M_worked_76 : decode q_M_worked.2.1 76 = .ok (.ifCond .ne 7, 3) := by decide +kernel
theorem d_M_worked_79 : decode q_M_worked.2.1 79 = .ok (.iconst 0, 1) := by decide +kernel
theorem d_M_worked_80 : decode q_M_worked.2.1 80 = .ok (.goto 9, 3) := by decide +kernel
theorem d_M_worked_83 : decode q_M_worked.2.1 83 = .ok (.lload_n 1, 1) := by decide +kernel
theorem d_M_worked_84 : decode q_M_worked.2.1 84 = .ok (.lload_n 3, 1) := by decide +kernel
theorem d_M_worked_89 : decode q_M_worked.2.1 89 = .ok (.ireturn, 1) := by decide +kernel
theorem d_M_worked_85 : decode q_M_worked.2.1 85 = .ok (.ldiv, 1) := by decide +kernel
theorem d_M_worked_86 : decode q_M_worked.2.1 86 = .ok (.invokestatic 186, 3) := by decide +kernel
theorem d_M_worked_90 : decode q_M_worked.2.1 90 = .ok (.lload_n 1, 1) := by decide +kernel
theorem d_M_worked_91 : decode q_M_worked.2.1 91 = .ok (.lload_n 3, 1) := by decide +kernel
theorem d_M_worked_92 : decode q_M_worked.2.1 92 = .ok (.lcmp, 1) := by decide +kernel
theorem d_M_worked_93 : decode q_M_worked.2.1 93 = .ok (.ifCond .ne 7, 3) := by decide +kernel
theorem d_M_worked_96 : decode q_M_worked.2.1 96 = .ok (.iconst 1, 1) := by decide +kernel
theorem d_M_worked_97 : decode q_M_worked.2.1 97 = .ok (.goto 4, 3) := by decide +kernel
theorem d_M_worked_100 : decode q_M_worked.2.1 100 = .ok (.iconst 0, 1) := by decide +kernel
theorem d_M_worked_101 : decode q_M_worked.2.1 101 = .ok (.ireturn, 1) := by decide +kernel
theorem d_M_worked_102 : decode q_M_worked.2.1 102 = .ok (.lload_n 1, 1) := by decide +kernel
theorem d_M_worked_103 : decode q_M_worked.2.1 103 = .ok (.lload_n 3, 1) := by decide +kernel
theorem d_M_worked_104 : decode q_M_worked.2.1 104 = .ok (.lcmp, 1) := by decide +kernel
theorem d_M_worked_105 : decode q_M_worked.2.1 105 = .ok (.ifCond .ge 7, 3) := by decide +kernel
theorem d_M_worked_112 : decode q_M_worked.2.1 112 = .ok (.iconst 0, 1) := by decide +kernel
theorem d_M_worked_108 : decode q_M_worked.2.1 108 = .ok (.iconst 1, 1) := by decide +kernel
theorem d_M_worked_109 : decode q_M_worked.2.1 109 = .ok (.goto 4, 3) := by decide +kernel
theorem d_M_worked_113 : decode q_M_worked.2.1 113 = .ok (.ireturn, 1) := by decide +kernel
theorem d_M_worked_114 : decode q_M_worked.2.1 114 = .ok (.lload_n 1, 1) := by decide +kernel
theorem d_M_worked_115 : decode q_M_worked.2.1 115 = .ok (.lload_n 3, 1) := by decide +kernel
theorem d_M_worked_116 : decode q_M_worked.2.1 116 = .ok (.lcmp, 1) := by decide +kernel
theorem d_M_worked_117 : decode q_M_worked.2.1 117 = .ok (.ifCond .le 7, 3) := by decide +kernel
theorem d_M_worked_124 : decode q_M_worked.2.1 124 = .ok (.iconst 0, 1) := by decide +kernel
theorem d_M_worked_120 : decode q_M_worked.2.1 120 = .ok (.iconst 1, 1) := by decide +kernel
theorem d_M_worked_121 : decode q_M_worked.2.1 121 = .ok (.goto 4, 3) := by decide +kernel
theorem d_M_worked_125 : decode q_M_worked.2.1 125 = .ok (.ireturn, 1) := by decide +kernel
theorem d_M_worked_126 : decode q_M_worked.2.1 126 = .ok (.lload_n 1, 1) := by decide +kernel
theorem d_M_worked_127 : decode q_M_worked.2.1 127 = .ok (.lconst 0, 1) := by decide +kernel
theorem d_M_worked_128 : decode q_M_worked.2.1 128 = .ok (.lcmp, 1) := by decide +kernel
theorem d_M_worked_129 : decode q_M_worked.2.1 129 = .ok (.ifCond .eq 13, 3) := by decide +kernel
theorem d_M_worked_142 : decode q_M_worked.2.1 142 = .ok (.iconst 0, 1) := by decide +kernel
theorem d_M_worked_132 : decode q_M_worked.2.1 132 = .ok (.lload_n 3, 1) := by decide +kernel
theorem d_M_worked_133 : decode q_M_worked.2.1 133 = .ok (.lconst 0, 1) := by decide +kernel
theorem d_M_worked_134 : decode q_M_worked.2.1 134 = .ok (.lcmp, 1) := by decide +kernel
theorem d_M_worked_135 : decode q_M_worked.2.1 135 = .ok (.ifCond .eq 7, 3) := by decide +kernel
theorem d_M_worked_138 : decode q_M_worked.2.1 138 = .ok (.iconst 1, 1) := by decide +kernel
theorem d_M_worked_139 : decode q_M_worked.2.1 139 = .ok (.goto 4, 3) := by decide +kernel
theorem d_M_worked_143 : decode q_M_worked.2.1 143 = .ok (.ireturn, 1) := by decide +kernel
theorem d_M_worked_144 : decode q_M_worked.2.1 144 = .ok (.lload_n 1, 1) := by decide +kernel
theorem d_M_worked_145 : decode q_M_worked.2.1 145 = .ok (.lconst 0, 1) := by decide +kernel
theorem d_M_worked_146 : decode q_M_worked.2.1 146 = .ok (.lcmp, 1) := by decide +kernel
theorem d_M_worked_147 : decode q_M_worked.2.1 147 = .ok (.ifCond .ne 9, 3) := by decide +kernel
theorem d_M_worked_150 : decode q_M_worked.2.1 150 = .ok (.lload_n 3, 1) := by decide +kernel
theorem d_M_worked_151 : decode q_M_worked.2.1 151 = .ok (.lconst 0, 1) := by decide +kernel
theorem d_M_worked_152 : decode q_M_worked.2.1 152 = .ok (.lcmp, 1) := by decide +kernel
theorem d_M_worked_153 : decode q_M_worked.2.1 153 = .ok (.ifCond .eq 7, 3) := by decide +kernel
theorem d_M_worked_160 : decode q_M_worked.2.1 160 = .ok (.iconst 0, 1) := by decide +kernel
theorem d_M_worked_156 : decode q_M_worked.2.1 156 = .ok (.iconst 1, 1) := by decide +kernel
theorem d_M_worked_157 : decode q_M_worked.2.1 157 = .ok (.goto 4, 3) := by decide +kernel
theorem d_M_worked_161 : decode q_M_worked.2.1 161 = .ok (.ireturn, 1) := by decide +kernel
theorem d_M_itemOf_0 : decode q_M_itemOf.2.1 0 = .ok (.iload_n 0, 1) := by decide +kernel
theorem d_M_itemOf_1 : decode q_M_itemOf.2.1 1 = .ok (.bipush 114, 2) := by decide +kernel
theorem bp_114 : (Int8.ofInt (114)).toInt32 = (114 : Int32) := by decide
theorem d_M_itemOf_3 : decode q_M_itemOf.2.1 3 = .ok (.if_icmp .ne 45, 3) := by decide +kernel
theorem d_M_itemOf_6 : decode q_M_itemOf.2.1 6 = .ok (.iload_n 1, 1) := by decide +kernel
theorem d_M_itemOf_7 : decode q_M_itemOf.2.1 7 = .ok (.bipush 119, 2) := by decide +kernel
theorem bp_119 : (Int8.ofInt (119)).toInt32 = (119 : Int32) := by decide
theorem d_M_itemOf_9 : decode q_M_itemOf.2.1 9 = .ok (.if_icmp .ne 7, 3) := by decide +kernel
theorem d_M_itemOf_12 : decode q_M_itemOf.2.1 12 = .ok (.iconst 0, 1) := by decide +kernel
theorem d_M_itemOf_13 : decode q_M_itemOf.2.1 13 = .ok (.goto 34, 3) := by decide +kernel
theorem d_M_itemOf_16 : decode q_M_itemOf.2.1 16 = .ok (.iload_n 1, 1) := by decide +kernel
theorem d_M_itemOf_17 : decode q_M_itemOf.2.1 17 = .ok (.bipush 104, 2) := by decide +kernel
theorem bp_104 : (Int8.ofInt (104)).toInt32 = (104 : Int32) := by decide
theorem d_M_itemOf_19 : decode q_M_itemOf.2.1 19 = .ok (.if_icmp .ne 7, 3) := by decide +kernel
theorem d_M_itemOf_22 : decode q_M_itemOf.2.1 22 = .ok (.iconst 1, 1) := by decide +kernel
theorem d_M_itemOf_23 : decode q_M_itemOf.2.1 23 = .ok (.goto 24, 3) := by decide +kernel
theorem d_M_itemOf_26 : decode q_M_itemOf.2.1 26 = .ok (.iload_n 1, 1) := by decide +kernel
theorem d_M_itemOf_27 : decode q_M_itemOf.2.1 27 = .ok (.bipush 103, 2) := by decide +kernel
theorem bp_103 : (Int8.ofInt (103)).toInt32 = (103 : Int32) := by decide
theorem d_M_itemOf_29 : decode q_M_itemOf.2.1 29 = .ok (.if_icmp .ne 7, 3) := by decide +kernel
theorem d_M_itemOf_32 : decode q_M_itemOf.2.1 32 = .ok (.iconst 2, 1) := by decide +kernel
theorem d_M_itemOf_33 : decode q_M_itemOf.2.1 33 = .ok (.goto 14, 3) := by decide +kernel
theorem d_M_itemOf_36 : decode q_M_itemOf.2.1 36 = .ok (.iload_n 1, 1) := by decide +kernel
theorem d_M_itemOf_37 : decode q_M_itemOf.2.1 37 = .ok (.bipush 116, 2) := by decide +kernel
theorem d_M_itemOf_39 : decode q_M_itemOf.2.1 39 = .ok (.if_icmp .ne 7, 3) := by decide +kernel
theorem d_M_itemOf_42 : decode q_M_itemOf.2.1 42 = .ok (.iconst 3, 1) := by decide +kernel
theorem d_M_itemOf_43 : decode q_M_itemOf.2.1 43 = .ok (.goto 4, 3) := by decide +kernel
theorem d_M_itemOf_46 : decode q_M_itemOf.2.1 46 = .ok (.iconst (-1), 1) := by decide +kernel
theorem d_M_itemOf_47 : decode q_M_itemOf.2.1 47 = .ok (.ireturn, 1) := by decide +kernel
theorem d_M_itemOf_48 : decode q_M_itemOf.2.1 48 = .ok (.iload_n 1, 1) := by decide +kernel
theorem d_M_itemOf_49 : decode q_M_itemOf.2.1 49 = .ok (.bipush 120, 2) := by decide +kernel
theorem bp_120 : (Int8.ofInt (120)).toInt32 = (120 : Int32) := by decide
theorem d_M_itemOf_51 : decode q_M_itemOf.2.1 51 = .ok (.if_icmp .ne 7, 3) := by decide +kernel
theorem d_M_itemOf_54 : decode q_M_itemOf.2.1 54 = .ok (.iconst 0, 1) := by decide +kernel
theorem d_M_itemOf_55 : decode q_M_itemOf.2.1 55 = .ok (.goto 24, 3) := by decide +kernel
theorem d_M_itemOf_58 : decode q_M_itemOf.2.1 58 = .ok (.iload_n 1, 1) := by decide +kernel
theorem d_M_itemOf_59 : decode q_M_itemOf.2.1 59 = .ok (.bipush 121, 2) := by decide +kernel
theorem bp_121 : (Int8.ofInt (121)).toInt32 = (121 : Int32) := by decide
theorem d_M_itemOf_61 : decode q_M_itemOf.2.1 61 = .ok (.if_icmp .ne 7, 3) := by decide +kernel
theorem d_M_itemOf_64 : decode q_M_itemOf.2.1 64 = .ok (.iconst 1, 1) := by decide +kernel
theorem d_M_itemOf_65 : decode q_M_itemOf.2.1 65 = .ok (.goto 14, 3) := by decide +kernel
theorem d_M_itemOf_68 : decode q_M_itemOf.2.1 68 = .ok (.iload_n 1, 1) := by decide +kernel
theorem d_M_itemOf_69 : decode q_M_itemOf.2.1 69 = .ok (.bipush 97, 2) := by decide +kernel
theorem bp_97 : (Int8.ofInt (97)).toInt32 = (97 : Int32) := by decide
theorem d_M_itemOf_71 : decode q_M_itemOf.2.1 71 = .ok (.if_icmp .ne 7, 3) := by decide +kernel
theorem d_M_itemOf_74 : decode q_M_itemOf.2.1 74 = .ok (.iconst 2, 1) := by decide +kernel
theorem d_M_itemOf_75 : decode q_M_itemOf.2.1 75 = .ok (.goto 4, 3) := by decide +kernel
theorem d_M_itemOf_78 : decode q_M_itemOf.2.1 78 = .ok (.iconst (-1), 1) := by decide +kernel
theorem d_M_itemOf_79 : decode q_M_itemOf.2.1 79 = .ok (.ireturn, 1) := by decide +kernel
theorem d_M_highest_0 : decode q_M_highest.2.1 0 = .ok (.iload_n 0, 1) := by decide +kernel
theorem d_M_highest_1 : decode q_M_highest.2.1 1 = .ok (.bipush 114, 2) := by decide +kernel
theorem d_M_highest_3 : decode q_M_highest.2.1 3 = .ok (.if_icmp .ne 26, 3) := by decide +kernel
theorem d_M_highest_6 : decode q_M_highest.2.1 6 = .ok (.iload_n 1, 1) := by decide +kernel
theorem d_M_highest_7 : decode q_M_highest.2.1 7 = .ok (.iconst 2, 1) := by decide +kernel
theorem d_M_highest_8 : decode q_M_highest.2.1 8 = .ok (.if_icmp .ge 8, 3) := by decide +kernel
theorem d_M_highest_16 : decode q_M_highest.2.1 16 = .ok (.iload_n 1, 1) := by decide +kernel
theorem d_M_highest_17 : decode q_M_highest.2.1 17 = .ok (.iconst 2, 1) := by decide +kernel
theorem d_M_highest_18 : decode q_M_highest.2.1 18 = .ok (.if_icmp .ne 8, 3) := by decide +kernel
theorem d_M_highest_21 : decode q_M_highest.2.1 21 = .ok (.bipush 15, 2) := by decide +kernel
theorem bp_15 : (Int8.ofInt (15)).toInt32 = (15 : Int32) := by decide
theorem d_M_highest_23 : decode q_M_highest.2.1 23 = .ok (.goto 5, 3) := by decide +kernel
theorem d_M_highest_26 : decode q_M_highest.2.1 26 = .ok (.bipush 99, 2) := by decide +kernel
theorem bp_99 : (Int8.ofInt (99)).toInt32 = (99 : Int32) := by decide
theorem d_M_highest_11 : decode q_M_highest.2.1 11 = .ok (.bipush 20, 2) := by decide +kernel
theorem bp_20 : (Int8.ofInt (20)).toInt32 = (20 : Int32) := by decide
theorem d_M_highest_13 : decode q_M_highest.2.1 13 = .ok (.goto 15, 3) := by decide +kernel
theorem d_M_highest_28 : decode q_M_highest.2.1 28 = .ok (.ireturn, 1) := by decide +kernel
theorem d_M_highest_29 : decode q_M_highest.2.1 29 = .ok (.iload_n 1, 1) := by decide +kernel
theorem d_M_highest_30 : decode q_M_highest.2.1 30 = .ok (.iconst 2, 1) := by decide +kernel
theorem d_M_highest_31 : decode q_M_highest.2.1 31 = .ok (.if_icmp .ge 8, 3) := by decide +kernel
theorem d_M_highest_39 : decode q_M_highest.2.1 39 = .ok (.iconst 1, 1) := by decide +kernel
theorem d_M_highest_34 : decode q_M_highest.2.1 34 = .ok (.bipush 20, 2) := by decide +kernel
theorem d_M_highest_36 : decode q_M_highest.2.1 36 = .ok (.goto 4, 3) := by decide +kernel
theorem d_M_highest_40 : decode q_M_highest.2.1 40 = .ok (.ireturn, 1) := by decide +kernel
theorem d_M_usual_0 : decode q_M_usual.2.1 0 = .ok (.iload_n 0, 1) := by decide +kernel
theorem d_M_usual_1 : decode q_M_usual.2.1 1 = .ok (.bipush 114, 2) := by decide +kernel
theorem d_M_usual_3 : decode q_M_usual.2.1 3 = .ok (.if_icmp .ne 35, 3) := by decide +kernel
theorem d_M_usual_6 : decode q_M_usual.2.1 6 = .ok (.iload_n 1, 1) := by decide +kernel
theorem d_M_usual_7 : decode q_M_usual.2.1 7 = .ok (.ifCond .ne 8, 3) := by decide +kernel
theorem d_M_usual_10 : decode q_M_usual.2.1 10 = .ok (.bipush 10, 2) := by decide +kernel
theorem d_M_usual_12 : decode q_M_usual.2.1 12 = .ok (.goto 25, 3) := by decide +kernel
theorem d_M_usual_15 : decode q_M_usual.2.1 15 = .ok (.iload_n 1, 1) := by decide +kernel
theorem d_M_usual_16 : decode q_M_usual.2.1 16 = .ok (.iconst 1, 1) := by decide +kernel
theorem d_M_usual_17 : decode q_M_usual.2.1 17 = .ok (.if_icmp .ne 8, 3) := by decide +kernel
theorem d_M_usual_20 : decode q_M_usual.2.1 20 = .ok (.bipush 8, 2) := by decide +kernel
theorem d_M_usual_22 : decode q_M_usual.2.1 22 = .ok (.goto 15, 3) := by decide +kernel
theorem d_M_usual_25 : decode q_M_usual.2.1 25 = .ok (.iload_n 1, 1) := by decide +kernel
theorem d_M_usual_26 : decode q_M_usual.2.1 26 = .ok (.iconst 2, 1) := by decide +kernel
theorem d_M_usual_27 : decode q_M_usual.2.1 27 = .ok (.if_icmp .ne 8, 3) := by decide +kernel
theorem d_M_usual_30 : decode q_M_usual.2.1 30 = .ok (.bipush 15, 2) := by decide +kernel
theorem d_M_usual_32 : decode q_M_usual.2.1 32 = .ok (.goto 5, 3) := by decide +kernel
theorem d_M_usual_35 : decode q_M_usual.2.1 35 = .ok (.bipush 10, 2) := by decide +kernel
theorem d_M_usual_37 : decode q_M_usual.2.1 37 = .ok (.ireturn, 1) := by decide +kernel
theorem d_M_usual_38 : decode q_M_usual.2.1 38 = .ok (.iconst 1, 1) := by decide +kernel
theorem d_M_usual_39 : decode q_M_usual.2.1 39 = .ok (.ireturn, 1) := by decide +kernel
theorem d_M_isBody_0 : decode q_M_isBody.2.1 0 = .ok (.iload_n 1, 1) := by decide +kernel
theorem d_M_isBody_1 : decode q_M_isBody.2.1 1 = .ok (.iconst 0, 1) := by decide +kernel
theorem d_M_isBody_2 : decode q_M_isBody.2.1 2 = .ok (.aload_n 0, 1) := by decide +kernel
theorem d_M_isBody_3 : decode q_M_isBody.2.1 3 = .ok (.getfield 236, 3) := by decide +kernel
theorem fl_M_236 : rx_F "GlassRoomModel" 236 12 23 := ⟨(RX12, TX12, 45), rfl, by decide, (rx_s5 122 rfl rfl), rx_T12⟩
theorem d_M_isBody_6 : decode q_M_isBody.2.1 6 = .ok (.iconst 1, 1) := by decide +kernel
theorem d_M_isBody_7 : decode q_M_isBody.2.1 7 = .ok (.isub, 1) := by decide +kernel
theorem d_M_isBody_8 : decode q_M_isBody.2.1 8 = .ok (.invokestatic 198, 3) := by decide +kernel
theorem ml_M_198 : rx_CS "GlassRoomModel" 198 q_M_in 3 := ⟨⟨(rx_s6 53 rfl rfl), (rx_s6 54 rfl rfl)⟩, ⟨(rx_s1 13 rfl rfl), q_M_in_k, ⟨by decide, by decide, by decide +kernel⟩, by decide⟩⟩
theorem d_M_isBody_11 : decode q_M_isBody.2.1 11 = .ok (.ireturn, 1) := by decide +kernel
theorem d_M_body_0 : decode q_M_body.2.1 0 = .ok (.aload_n 0, 1) := by decide +kernel
theorem d_M_body_1 : decode q_M_body.2.1 1 = .ok (.aload_n 0, 1) := by decide +kernel
theorem d_M_body_2 : decode q_M_body.2.1 2 = .ok (.iload_n 1, 1) := by decide +kernel
theorem d_M_body_3 : decode q_M_body.2.1 3 = .ok (.invokevirtual 267, 3) := by decide +kernel
theorem ml_M_267 : rx_CV "GlassRoomModel" 267 q_M_isBody 1 := ⟨⟨(rx_s6 142 rfl rfl), (rx_s6 144 rfl rfl), (rx_s0 47 rfl rfl)⟩, ⟨(rx_s1 13 rfl rfl), q_M_isBody_k, ⟨by decide, by decide, by decide +kernel⟩, by decide⟩⟩
theorem d_M_body_6 : decode q_M_body.2.1 6 = .ok (.ifCond .eq 16, 3) := by decide +kernel
theorem d_M_body_22 : decode q_M_body.2.1 22 = .ok (.iconst 1, 1) := by decide +kernel
theorem d_M_body_9 : decode q_M_body.2.1 9 = .ok (.iload_n 2, 1) := by decide +kernel
theorem d_M_body_10 : decode q_M_body.2.1 10 = .ok (.iconst 0, 1) := by decide +kernel
theorem d_M_body_11 : decode q_M_body.2.1 11 = .ok (.iconst 2, 1) := by decide +kernel
theorem d_M_body_12 : decode q_M_body.2.1 12 = .ok (.invokestatic 198, 3) := by decide +kernel
theorem d_M_body_15 : decode q_M_body.2.1 15 = .ok (.ifCond .eq 7, 3) := by decide +kernel
theorem d_M_body_18 : decode q_M_body.2.1 18 = .ok (.iconst 0, 1) := by decide +kernel
theorem d_M_body_19 : decode q_M_body.2.1 19 = .ok (.goto 4, 3) := by decide +kernel
theorem d_M_body_23 : decode q_M_body.2.1 23 = .ok (.putfield 83, 3) := by decide +kernel
theorem fp_M_83 : rx_FP "GlassRoomModel" 83 12 0 (.int) := ⟨(RX12, TX12, 45), tyX12, rfl, by decide, (rx_s5 99 rfl rfl), rx_T12, tyX12_ok, nmX12, rfl, rfl⟩
theorem d_M_body_26 : decode q_M_body.2.1 26 = .ok (.aload_n 0, 1) := by decide +kernel
theorem d_M_body_27 : decode q_M_body.2.1 27 = .ok (.getfield 83, 3) := by decide +kernel
theorem d_M_body_30 : decode q_M_body.2.1 30 = .ok (.iconst 1, 1) := by decide +kernel
theorem d_M_body_31 : decode q_M_body.2.1 31 = .ok (.if_icmp .ne 7, 3) := by decide +kernel
theorem d_M_body_34 : decode q_M_body.2.1 34 = .ok (.iconst 0, 1) := by decide +kernel
theorem d_M_body_35 : decode q_M_body.2.1 35 = .ok (.goto 36, 3) := by decide +kernel
theorem d_M_body_38 : decode q_M_body.2.1 38 = .ok (.iload_n 2, 1) := by decide +kernel
theorem d_M_body_39 : decode q_M_body.2.1 39 = .ok (.ifCond .ne 12, 3) := by decide +kernel
theorem d_M_body_42 : decode q_M_body.2.1 42 = .ok (.aload_n 0, 1) := by decide +kernel
theorem d_M_body_43 : decode q_M_body.2.1 43 = .ok (.getfield 46, 3) := by decide +kernel
theorem fl_M_46 : rx_F "GlassRoomModel" 46 12 20 := ⟨(RX12, TX12, 45), rfl, by decide, (rx_s5 119 rfl rfl), rx_T12⟩
theorem d_M_body_46 : decode q_M_body.2.1 46 = .ok (.iload_n 1, 1) := by decide +kernel
theorem d_M_body_71 : decode q_M_body.2.1 71 = .ok (.ireturn, 1) := by decide +kernel
theorem d_M_body_47 : decode q_M_body.2.1 47 = .ok (.iaload, 1) := by decide +kernel
theorem d_M_body_48 : decode q_M_body.2.1 48 = .ok (.goto 23, 3) := by decide +kernel
theorem d_M_body_51 : decode q_M_body.2.1 51 = .ok (.iload_n 2, 1) := by decide +kernel
theorem d_M_body_52 : decode q_M_body.2.1 52 = .ok (.iconst 1, 1) := by decide +kernel
theorem d_M_body_53 : decode q_M_body.2.1 53 = .ok (.if_icmp .ne 12, 3) := by decide +kernel
theorem d_M_body_56 : decode q_M_body.2.1 56 = .ok (.aload_n 0, 1) := by decide +kernel
theorem d_M_body_57 : decode q_M_body.2.1 57 = .ok (.getfield 49, 3) := by decide +kernel
theorem fl_M_49 : rx_F "GlassRoomModel" 49 12 21 := ⟨(RX12, TX12, 45), rfl, by decide, (rx_s5 120 rfl rfl), rx_T12⟩
theorem d_M_body_60 : decode q_M_body.2.1 60 = .ok (.iload_n 1, 1) := by decide +kernel
theorem d_M_body_61 : decode q_M_body.2.1 61 = .ok (.iaload, 1) := by decide +kernel
theorem d_M_body_62 : decode q_M_body.2.1 62 = .ok (.goto 9, 3) := by decide +kernel
theorem d_M_body_65 : decode q_M_body.2.1 65 = .ok (.aload_n 0, 1) := by decide +kernel
theorem d_M_body_66 : decode q_M_body.2.1 66 = .ok (.getfield 52, 3) := by decide +kernel
theorem fl_M_52 : rx_F "GlassRoomModel" 52 12 22 := ⟨(RX12, TX12, 45), rfl, by decide, (rx_s5 121 rfl rfl), rx_T12⟩
theorem d_M_body_69 : decode q_M_body.2.1 69 = .ok (.iload_n 1, 1) := by decide +kernel
theorem d_M_body_70 : decode q_M_body.2.1 70 = .ok (.iaload, 1) := by decide +kernel
theorem d_M_light_0 : decode q_M_light.2.1 0 = .ok (.iload_n 1, 1) := by decide +kernel
theorem d_M_light_1 : decode q_M_light.2.1 1 = .ok (.iconst (-1), 1) := by decide +kernel
theorem d_M_light_2 : decode q_M_light.2.1 2 = .ok (.aload_n 0, 1) := by decide +kernel
theorem d_M_light_3 : decode q_M_light.2.1 3 = .ok (.getfield 264, 3) := by decide +kernel
theorem fl_M_264 : rx_F "GlassRoomModel" 264 12 13 := ⟨(RX12, TX12, 45), rfl, by decide, (rx_s5 112 rfl rfl), rx_T12⟩
theorem d_M_light_6 : decode q_M_light.2.1 6 = .ok (.iconst 1, 1) := by decide +kernel
theorem d_M_light_7 : decode q_M_light.2.1 7 = .ok (.isub, 1) := by decide +kernel
theorem d_M_light_8 : decode q_M_light.2.1 8 = .ok (.invokestatic 198, 3) := by decide +kernel
theorem d_M_light_11 : decode q_M_light.2.1 11 = .ok (.ifCond .ne 5, 3) := by decide +kernel
theorem d_M_light_14 : decode q_M_light.2.1 14 = .ok (.iconst 0, 1) := by decide +kernel
theorem d_M_light_15 : decode q_M_light.2.1 15 = .ok (.ireturn, 1) := by decide +kernel
theorem d_M_light_16 : decode q_M_light.2.1 16 = .ok (.aload_n 0, 1) := by decide +kernel
theorem d_M_light_17 : decode q_M_light.2.1 17 = .ok (.iload_n 1, 1) := by decide +kernel
theorem d_M_light_18 : decode q_M_light.2.1 18 = .ok (.putfield 55, 3) := by decide +kernel
theorem fp_M_55 : rx_FP "GlassRoomModel" 55 12 28 (.int) := ⟨(RX12, TX12, 45), tyX12, rfl, by decide, (rx_s5 127 rfl rfl), rx_T12, tyX12_ok, nmX12, rfl, rfl⟩
theorem d_M_light_21 : decode q_M_light.2.1 21 = .ok (.iconst 1, 1) := by decide +kernel
theorem d_M_light_22 : decode q_M_light.2.1 22 = .ok (.ireturn, 1) := by decide +kernel
theorem d_M_isInside_0 : decode q_M_isInside.2.1 0 = .ok (.iload_n 1, 1) := by decide +kernel
theorem d_M_isInside_1 : decode q_M_isInside.2.1 1 = .ok (.iconst 0, 1) := by decide +kernel
theorem d_M_isInside_2 : decode q_M_isInside.2.1 2 = .ok (.aload_n 0, 1) := by decide +kernel
theorem d_M_isInside_3 : decode q_M_isInside.2.1 3 = .ok (.getfield 239, 3) := by decide +kernel
theorem fl_M_239 : rx_F "GlassRoomModel" 239 12 24 := ⟨(RX12, TX12, 45), rfl, by decide, (rx_s5 123 rfl rfl), rx_T12⟩
theorem d_M_isInside_6 : decode q_M_isInside.2.1 6 = .ok (.invokestatic 198, 3) := by decide +kernel
theorem d_M_isInside_9 : decode q_M_isInside.2.1 9 = .ok (.ifCond .eq 19, 3) := by decide +kernel
theorem d_M_isInside_28 : decode q_M_isInside.2.1 28 = .ok (.iconst 0, 1) := by decide +kernel
theorem d_M_isInside_12 : decode q_M_isInside.2.1 12 = .ok (.iload_n 2, 1) := by decide +kernel
theorem d_M_isInside_13 : decode q_M_isInside.2.1 13 = .ok (.iconst 0, 1) := by decide +kernel
theorem d_M_isInside_14 : decode q_M_isInside.2.1 14 = .ok (.aload_n 0, 1) := by decide +kernel
theorem d_M_isInside_15 : decode q_M_isInside.2.1 15 = .ok (.getfield 242, 3) := by decide +kernel
theorem fl_M_242 : rx_F "GlassRoomModel" 242 12 25 := ⟨(RX12, TX12, 45), rfl, by decide, (rx_s5 124 rfl rfl), rx_T12⟩
theorem d_M_isInside_18 : decode q_M_isInside.2.1 18 = .ok (.invokestatic 198, 3) := by decide +kernel
theorem d_M_isInside_21 : decode q_M_isInside.2.1 21 = .ok (.ifCond .eq 7, 3) := by decide +kernel
theorem d_M_isInside_24 : decode q_M_isInside.2.1 24 = .ok (.iconst 1, 1) := by decide +kernel
theorem d_M_isInside_25 : decode q_M_isInside.2.1 25 = .ok (.goto 4, 3) := by decide +kernel
theorem d_M_isInside_29 : decode q_M_isInside.2.1 29 = .ok (.ireturn, 1) := by decide +kernel
theorem d_M_thrownTo_0 : decode q_M_thrownTo.2.1 0 = .ok (.iload_n 0, 1) := by decide +kernel
theorem d_M_thrownTo_1 : decode q_M_thrownTo.2.1 1 = .ok (.iload_n 1, 1) := by decide +kernel
theorem d_M_thrownTo_2 : decode q_M_thrownTo.2.1 2 = .ok (.imul, 1) := by decide +kernel
theorem d_M_thrownTo_3 : decode q_M_thrownTo.2.1 3 = .ok (.iload_n 0, 1) := by decide +kernel
theorem d_M_thrownTo_4 : decode q_M_thrownTo.2.1 4 = .ok (.iconst 2, 1) := by decide +kernel
theorem d_M_thrownTo_5 : decode q_M_thrownTo.2.1 5 = .ok (.irem, 1) := by decide +kernel
theorem d_M_thrownTo_6 : decode q_M_thrownTo.2.1 6 = .ok (.ifCond .ne 7, 3) := by decide +kernel
theorem d_M_thrownTo_9 : decode q_M_thrownTo.2.1 9 = .ok (.iload_n 2, 1) := by decide +kernel
theorem d_M_thrownTo_10 : decode q_M_thrownTo.2.1 10 = .ok (.goto 6, 3) := by decide +kernel
theorem d_M_thrownTo_13 : decode q_M_thrownTo.2.1 13 = .ok (.iload_n 1, 1) := by decide +kernel
theorem d_M_thrownTo_14 : decode q_M_thrownTo.2.1 14 = .ok (.iload_n 2, 1) := by decide +kernel
theorem d_M_thrownTo_15 : decode q_M_thrownTo.2.1 15 = .ok (.isub, 1) := by decide +kernel
theorem d_M_thrownTo_16 : decode q_M_thrownTo.2.1 16 = .ok (.iadd, 1) := by decide +kernel
theorem d_M_thrownTo_17 : decode q_M_thrownTo.2.1 17 = .ok (.ireturn, 1) := by decide +kernel
theorem d_M_imageX_0 : decode q_M_imageX.2.1 0 = .ok (.iload_n 2, 1) := by decide +kernel
theorem d_M_imageX_1 : decode q_M_imageX.2.1 1 = .ok (.aload_n 0, 1) := by decide +kernel
theorem d_M_imageX_2 : decode q_M_imageX.2.1 2 = .ok (.getfield 239, 3) := by decide +kernel
theorem d_M_imageX_5 : decode q_M_imageX.2.1 5 = .ok (.aload_n 0, 1) := by decide +kernel
theorem d_M_imageX_6 : decode q_M_imageX.2.1 6 = .ok (.getfield 46, 3) := by decide +kernel
theorem d_M_imageX_9 : decode q_M_imageX.2.1 9 = .ok (.iload_n 1, 1) := by decide +kernel
theorem d_M_imageX_10 : decode q_M_imageX.2.1 10 = .ok (.iaload, 1) := by decide +kernel
theorem d_M_imageX_11 : decode q_M_imageX.2.1 11 = .ok (.invokestatic 289, 3) := by decide +kernel
theorem ml_M_289 : rx_CS "GlassRoomModel" 289 q_M_thrownTo 3 := ⟨⟨(rx_s6 198 rfl rfl), (rx_s6 199 rfl rfl)⟩, ⟨(rx_s1 13 rfl rfl), q_M_thrownTo_k, ⟨by decide, by decide, by decide +kernel⟩, by decide⟩⟩
theorem d_M_imageX_14 : decode q_M_imageX.2.1 14 = .ok (.ireturn, 1) := by decide +kernel
theorem d_M_imageY_0 : decode q_M_imageY.2.1 0 = .ok (.iload_n 2, 1) := by decide +kernel
theorem d_M_imageY_1 : decode q_M_imageY.2.1 1 = .ok (.aload_n 0, 1) := by decide +kernel
theorem d_M_imageY_2 : decode q_M_imageY.2.1 2 = .ok (.getfield 242, 3) := by decide +kernel
theorem d_M_imageY_5 : decode q_M_imageY.2.1 5 = .ok (.aload_n 0, 1) := by decide +kernel
theorem d_M_imageY_6 : decode q_M_imageY.2.1 6 = .ok (.getfield 49, 3) := by decide +kernel
theorem d_M_imageY_9 : decode q_M_imageY.2.1 9 = .ok (.iload_n 1, 1) := by decide +kernel
theorem d_M_imageY_10 : decode q_M_imageY.2.1 10 = .ok (.iaload, 1) := by decide +kernel
theorem d_M_imageY_11 : decode q_M_imageY.2.1 11 = .ok (.invokestatic 289, 3) := by decide +kernel
theorem d_M_imageY_14 : decode q_M_imageY.2.1 14 = .ok (.ireturn, 1) := by decide +kernel
theorem d_M_canBe_0 : decode q_M_canBe.2.1 0 = .ok (.iload_n 1, 1) := by decide +kernel
theorem d_M_canBe_1 : decode q_M_canBe.2.1 1 = .ok (.ifCond .eq 60, 3) := by decide +kernel
theorem d_M_canBe_61 : decode q_M_canBe.2.1 61 = .ok (.iconst 1, 1) := by decide +kernel
theorem d_M_canBe_62 : decode q_M_canBe.2.1 62 = .ok (.goto 4, 3) := by decide +kernel
theorem d_M_canBe_4 : decode q_M_canBe.2.1 4 = .ok (.aload_n 0, 1) := by decide +kernel
theorem d_M_canBe_5 : decode q_M_canBe.2.1 5 = .ok (.getfield 245, 3) := by decide +kernel
theorem fl_M_245 : rx_F "GlassRoomModel" 245 12 26 := ⟨(RX12, TX12, 45), rfl, by decide, (rx_s5 125 rfl rfl), rx_T12⟩
theorem d_M_canBe_8 : decode q_M_canBe.2.1 8 = .ok (.iload_n 2, 1) := by decide +kernel
theorem d_M_canBe_9 : decode q_M_canBe.2.1 9 = .ok (.invokestatic 209, 3) := by decide +kernel
theorem ml_M_209 : rx_CS "GlassRoomModel" 209 q_M_has 2 := ⟨⟨(rx_s6 36 rfl rfl), (rx_s6 37 rfl rfl)⟩, ⟨(rx_s1 13 rfl rfl), q_M_has_k, ⟨by decide, by decide, by decide +kernel⟩, by decide⟩⟩
theorem d_M_canBe_12 : decode q_M_canBe.2.1 12 = .ok (.ifCond .eq 17, 3) := by decide +kernel
theorem d_M_canBe_29 : decode q_M_canBe.2.1 29 = .ok (.iload_n 1, 1) := by decide +kernel
theorem d_M_canBe_30 : decode q_M_canBe.2.1 30 = .ok (.iconst (-1), 1) := by decide +kernel
theorem d_M_canBe_31 : decode q_M_canBe.2.1 31 = .ok (.if_icmp .ne 14, 3) := by decide +kernel
theorem d_M_canBe_34 : decode q_M_canBe.2.1 34 = .ok (.aload_n 0, 1) := by decide +kernel
theorem d_M_canBe_35 : decode q_M_canBe.2.1 35 = .ok (.getfield 245, 3) := by decide +kernel
theorem d_M_canBe_38 : decode q_M_canBe.2.1 38 = .ok (.iload_n 2, 1) := by decide +kernel
theorem d_M_canBe_39 : decode q_M_canBe.2.1 39 = .ok (.invokestatic 209, 3) := by decide +kernel
theorem d_M_canBe_42 : decode q_M_canBe.2.1 42 = .ok (.ifCond .ne 19, 3) := by decide +kernel
theorem d_M_canBe_45 : decode q_M_canBe.2.1 45 = .ok (.iload_n 1, 1) := by decide +kernel
theorem d_M_canBe_46 : decode q_M_canBe.2.1 46 = .ok (.iconst 1, 1) := by decide +kernel
theorem d_M_canBe_47 : decode q_M_canBe.2.1 47 = .ok (.if_icmp .ne 18, 3) := by decide +kernel
theorem d_M_canBe_50 : decode q_M_canBe.2.1 50 = .ok (.aload_n 0, 1) := by decide +kernel
theorem d_M_canBe_51 : decode q_M_canBe.2.1 51 = .ok (.getfield 245, 3) := by decide +kernel
theorem d_M_canBe_54 : decode q_M_canBe.2.1 54 = .ok (.iload_n 3, 1) := by decide +kernel
theorem d_M_canBe_55 : decode q_M_canBe.2.1 55 = .ok (.invokestatic 209, 3) := by decide +kernel
theorem d_M_canBe_58 : decode q_M_canBe.2.1 58 = .ok (.ifCond .eq 7, 3) := by decide +kernel
theorem d_M_canBe_65 : decode q_M_canBe.2.1 65 = .ok (.iconst 0, 1) := by decide +kernel
theorem d_M_canBe_15 : decode q_M_canBe.2.1 15 = .ok (.aload_n 0, 1) := by decide +kernel
theorem d_M_canBe_16 : decode q_M_canBe.2.1 16 = .ok (.getfield 245, 3) := by decide +kernel
theorem d_M_canBe_19 : decode q_M_canBe.2.1 19 = .ok (.iload_n 3, 1) := by decide +kernel
theorem d_M_canBe_20 : decode q_M_canBe.2.1 20 = .ok (.invokestatic 209, 3) := by decide +kernel
theorem d_M_canBe_23 : decode q_M_canBe.2.1 23 = .ok (.ifCond .eq 6, 3) := by decide +kernel
theorem d_M_canBe_26 : decode q_M_canBe.2.1 26 = .ok (.goto 35, 3) := by decide +kernel
theorem d_M_canBe_66 : decode q_M_canBe.2.1 66 = .ok (.ireturn, 1) := by decide +kernel
theorem d_M_isThere_0 : decode q_M_isThere.2.1 0 = .ok (.aload_n 0, 1) := by decide +kernel
theorem d_M_isThere_1 : decode q_M_isThere.2.1 1 = .ok (.iload_n 1, 1) := by decide +kernel
theorem d_M_isThere_2 : decode q_M_isThere.2.1 2 = .ok (.iconst 0, 1) := by decide +kernel
theorem d_M_isThere_3 : decode q_M_isThere.2.1 3 = .ok (.iconst 1, 1) := by decide +kernel
theorem d_M_isThere_4 : decode q_M_isThere.2.1 4 = .ok (.invokevirtual 292, 3) := by decide +kernel
theorem ml_M_292 : rx_CV "GlassRoomModel" 292 q_M_canBe 3 := ⟨⟨(rx_s6 218 rfl rfl), (rx_s6 220 rfl rfl), (rx_s0 57 rfl rfl)⟩, ⟨(rx_s1 13 rfl rfl), q_M_canBe_k, ⟨by decide, by decide, by decide +kernel⟩, by decide⟩⟩
theorem d_M_isThere_7 : decode q_M_isThere.2.1 7 = .ok (.ifCond .eq 17, 3) := by decide +kernel
theorem d_M_isThere_24 : decode q_M_isThere.2.1 24 = .ok (.iconst 0, 1) := by decide +kernel
theorem d_M_isThere_10 : decode q_M_isThere.2.1 10 = .ok (.aload_n 0, 1) := by decide +kernel
theorem d_M_isThere_11 : decode q_M_isThere.2.1 11 = .ok (.iload_n 2, 1) := by decide +kernel
theorem d_M_isThere_12 : decode q_M_isThere.2.1 12 = .ok (.iconst 2, 1) := by decide +kernel
theorem d_M_isThere_13 : decode q_M_isThere.2.1 13 = .ok (.iconst 3, 1) := by decide +kernel
theorem d_M_isThere_14 : decode q_M_isThere.2.1 14 = .ok (.invokevirtual 292, 3) := by decide +kernel
theorem d_M_isThere_17 : decode q_M_isThere.2.1 17 = .ok (.ifCond .eq 7, 3) := by decide +kernel
theorem d_M_isThere_20 : decode q_M_isThere.2.1 20 = .ok (.iconst 1, 1) := by decide +kernel
theorem d_M_isThere_21 : decode q_M_isThere.2.1 21 = .ok (.goto 4, 3) := by decide +kernel
theorem d_M_isThere_25 : decode q_M_isThere.2.1 25 = .ok (.ireturn, 1) := by decide +kernel
theorem d_M_glasses_0 : decode q_M_glasses.2.1 0 = .ok (.iload_n 0, 1) := by decide +kernel
theorem d_M_glasses_1 : decode q_M_glasses.2.1 1 = .ok (.invokestatic 295, 3) := by decide +kernel
theorem ml_M_295 : rx_CS "GlassRoomModel" 295 q_Mt_abs 1 := ⟨⟨(rx_s6 208 rfl rfl), (rx_s3 189 rfl rfl)⟩, ⟨(rx_s1 16 rfl rfl), q_Mt_abs_k, ⟨by decide, by decide, by decide +kernel⟩, by decide⟩⟩
theorem d_M_glasses_4 : decode q_M_glasses.2.1 4 = .ok (.iload_n 1, 1) := by decide +kernel
theorem d_M_glasses_5 : decode q_M_glasses.2.1 5 = .ok (.invokestatic 295, 3) := by decide +kernel
theorem d_M_glasses_8 : decode q_M_glasses.2.1 8 = .ok (.iadd, 1) := by decide +kernel
theorem d_M_glasses_9 : decode q_M_glasses.2.1 9 = .ok (.ireturn, 1) := by decide +kernel
theorem d_M_isImage_0 : decode q_M_isImage.2.1 0 = .ok (.aload_n 0, 1) := by decide +kernel
theorem d_M_isImage_1 : decode q_M_isImage.2.1 1 = .ok (.iload_n 1, 1) := by decide +kernel
theorem d_M_isImage_2 : decode q_M_isImage.2.1 2 = .ok (.invokevirtual 267, 3) := by decide +kernel
theorem d_M_isImage_5 : decode q_M_isImage.2.1 5 = .ok (.ifCond .eq 29, 3) := by decide +kernel
theorem d_M_isImage_34 : decode q_M_isImage.2.1 34 = .ok (.iconst 0, 1) := by decide +kernel
theorem d_M_isImage_8 : decode q_M_isImage.2.1 8 = .ok (.iload_n 2, 1) := by decide +kernel
theorem d_M_isImage_9 : decode q_M_isImage.2.1 9 = .ok (.bipush (-10), 2) := by decide +kernel
theorem d_M_isImage_11 : decode q_M_isImage.2.1 11 = .ok (.bipush 10, 2) := by decide +kernel
theorem d_M_isImage_13 : decode q_M_isImage.2.1 13 = .ok (.invokestatic 198, 3) := by decide +kernel
theorem d_M_isImage_16 : decode q_M_isImage.2.1 16 = .ok (.ifCond .eq 18, 3) := by decide +kernel
theorem d_M_isImage_19 : decode q_M_isImage.2.1 19 = .ok (.iload_n 3, 1) := by decide +kernel
theorem d_M_isImage_20 : decode q_M_isImage.2.1 20 = .ok (.bipush (-10), 2) := by decide +kernel
theorem d_M_isImage_22 : decode q_M_isImage.2.1 22 = .ok (.bipush 10, 2) := by decide +kernel
theorem d_M_isImage_24 : decode q_M_isImage.2.1 24 = .ok (.invokestatic 198, 3) := by decide +kernel
theorem d_M_isImage_27 : decode q_M_isImage.2.1 27 = .ok (.ifCond .eq 7, 3) := by decide +kernel
theorem d_M_isImage_30 : decode q_M_isImage.2.1 30 = .ok (.iconst 1, 1) := by decide +kernel
theorem d_M_isImage_31 : decode q_M_isImage.2.1 31 = .ok (.goto 4, 3) := by decide +kernel
theorem d_M_isImage_35 : decode q_M_isImage.2.1 35 = .ok (.ireturn, 1) := by decide +kernel
theorem d_M_farOf_0 : decode q_M_farOf.2.1 0 = .ok (.aload_n 0, 1) := by decide +kernel
theorem d_M_farOf_1 : decode q_M_farOf.2.1 1 = .ok (.iload_n 1, 1) := by decide +kernel
theorem d_M_farOf_2 : decode q_M_farOf.2.1 2 = .ok (.iload_n 2, 1) := by decide +kernel
theorem d_M_farOf_3 : decode q_M_farOf.2.1 3 = .ok (.invokevirtual 299, 3) := by decide +kernel
theorem ml_M_299 : rx_CV "GlassRoomModel" 299 q_M_imageX 2 := ⟨⟨(rx_s6 194 rfl rfl), (rx_s6 196 rfl rfl), (rx_s0 53 rfl rfl)⟩, ⟨(rx_s1 13 rfl rfl), q_M_imageX_k, ⟨by decide, by decide, by decide +kernel⟩, by decide⟩⟩
theorem d_M_farOf_6 : decode q_M_farOf.2.1 6 = .ok (.aload_n 0, 1) := by decide +kernel
theorem d_M_farOf_7 : decode q_M_farOf.2.1 7 = .ok (.getfield 46, 3) := by decide +kernel
theorem d_M_farOf_10 : decode q_M_farOf.2.1 10 = .ok (.iload 4, 2) := by decide +kernel
theorem d_M_farOf_12 : decode q_M_farOf.2.1 12 = .ok (.iaload, 1) := by decide +kernel
theorem d_M_farOf_13 : decode q_M_farOf.2.1 13 = .ok (.isub, 1) := by decide +kernel
theorem d_M_farOf_14 : decode q_M_farOf.2.1 14 = .ok (.istore 5, 2) := by decide +kernel
theorem d_M_farOf_16 : decode q_M_farOf.2.1 16 = .ok (.aload_n 0, 1) := by decide +kernel
theorem d_M_farOf_17 : decode q_M_farOf.2.1 17 = .ok (.iload_n 1, 1) := by decide +kernel
theorem d_M_farOf_18 : decode q_M_farOf.2.1 18 = .ok (.iload_n 3, 1) := by decide +kernel
theorem d_M_farOf_19 : decode q_M_farOf.2.1 19 = .ok (.invokevirtual 302, 3) := by decide +kernel
theorem ml_M_302 : rx_CV "GlassRoomModel" 302 q_M_imageY 2 := ⟨⟨(rx_s6 201 rfl rfl), (rx_s6 203 rfl rfl), (rx_s0 54 rfl rfl)⟩, ⟨(rx_s1 13 rfl rfl), q_M_imageY_k, ⟨by decide, by decide, by decide +kernel⟩, by decide⟩⟩
theorem d_M_farOf_22 : decode q_M_farOf.2.1 22 = .ok (.aload_n 0, 1) := by decide +kernel
theorem d_M_farOf_23 : decode q_M_farOf.2.1 23 = .ok (.getfield 49, 3) := by decide +kernel
theorem d_M_farOf_26 : decode q_M_farOf.2.1 26 = .ok (.iload 4, 2) := by decide +kernel
theorem d_M_farOf_28 : decode q_M_farOf.2.1 28 = .ok (.iaload, 1) := by decide +kernel
theorem d_M_farOf_29 : decode q_M_farOf.2.1 29 = .ok (.isub, 1) := by decide +kernel
theorem d_M_farOf_30 : decode q_M_farOf.2.1 30 = .ok (.istore 6, 2) := by decide +kernel
theorem d_M_farOf_32 : decode q_M_farOf.2.1 32 = .ok (.iload 5, 2) := by decide +kernel
theorem d_M_farOf_34 : decode q_M_farOf.2.1 34 = .ok (.iload 5, 2) := by decide +kernel
theorem d_M_farOf_36 : decode q_M_farOf.2.1 36 = .ok (.imul, 1) := by decide +kernel
theorem d_M_farOf_37 : decode q_M_farOf.2.1 37 = .ok (.iload 6, 2) := by decide +kernel
theorem d_M_farOf_39 : decode q_M_farOf.2.1 39 = .ok (.iload 6, 2) := by decide +kernel
theorem d_M_farOf_41 : decode q_M_farOf.2.1 41 = .ok (.imul, 1) := by decide +kernel
theorem d_M_farOf_42 : decode q_M_farOf.2.1 42 = .ok (.iadd, 1) := by decide +kernel
theorem d_M_farOf_43 : decode q_M_farOf.2.1 43 = .ok (.ireturn, 1) := by decide +kernel
theorem d_M_far_0 : decode q_M_far.2.1 0 = .ok (.aload_n 0, 1) := by decide +kernel
theorem d_M_far_1 : decode q_M_far.2.1 1 = .ok (.iload_n 1, 1) := by decide +kernel
theorem d_M_far_2 : decode q_M_far.2.1 2 = .ok (.iload_n 2, 1) := by decide +kernel
theorem d_M_far_3 : decode q_M_far.2.1 3 = .ok (.iload_n 3, 1) := by decide +kernel
theorem d_M_far_4 : decode q_M_far.2.1 4 = .ok (.invokevirtual 305, 3) := by decide +kernel
theorem ml_M_305 : rx_CV "GlassRoomModel" 305 q_M_isImage 3 := ⟨⟨(rx_s6 189 rfl rfl), (rx_s6 191 rfl rfl), (rx_s0 52 rfl rfl)⟩, ⟨(rx_s1 13 rfl rfl), q_M_isImage_k, ⟨by decide, by decide, by decide +kernel⟩, by decide⟩⟩
theorem d_M_far_7 : decode q_M_far.2.1 7 = .ok (.ifCond .eq 24, 3) := by decide +kernel
theorem d_M_far_31 : decode q_M_far.2.1 31 = .ok (.iconst (-1), 1) := by decide +kernel
theorem d_M_far_10 : decode q_M_far.2.1 10 = .ok (.aload_n 0, 1) := by decide +kernel
theorem d_M_far_11 : decode q_M_far.2.1 11 = .ok (.iload 4, 2) := by decide +kernel
theorem d_M_far_13 : decode q_M_far.2.1 13 = .ok (.invokevirtual 267, 3) := by decide +kernel
theorem d_M_far_16 : decode q_M_far.2.1 16 = .ok (.ifCond .eq 15, 3) := by decide +kernel
theorem d_M_far_19 : decode q_M_far.2.1 19 = .ok (.aload_n 0, 1) := by decide +kernel
theorem d_M_far_20 : decode q_M_far.2.1 20 = .ok (.iload_n 1, 1) := by decide +kernel
theorem d_M_far_21 : decode q_M_far.2.1 21 = .ok (.iload_n 2, 1) := by decide +kernel
theorem d_M_far_22 : decode q_M_far.2.1 22 = .ok (.iload_n 3, 1) := by decide +kernel
theorem d_M_far_23 : decode q_M_far.2.1 23 = .ok (.iload 4, 2) := by decide +kernel
theorem d_M_far_32 : decode q_M_far.2.1 32 = .ok (.ireturn, 1) := by decide +kernel
theorem d_M_far_25 : decode q_M_far.2.1 25 = .ok (.invokevirtual 318, 3) := by decide +kernel
theorem ml_M_318 : rx_CV "GlassRoomModel" 318 q_M_farOf 4 := ⟨⟨(rx_s6 226 rfl rfl), (rx_s6 228 rfl rfl), (rx_s0 58 rfl rfl)⟩, ⟨(rx_s1 13 rfl rfl), q_M_farOf_k, ⟨by decide, by decide, by decide +kernel⟩, by decide⟩⟩
theorem d_M_far_28 : decode q_M_far.2.1 28 = .ok (.goto 4, 3) := by decide +kernel
theorem d_M_isOn_0 : decode q_M_isOn.2.1 0 = .ok (.iload_n 0, 1) := by decide +kernel
theorem d_M_isOn_1 : decode q_M_isOn.2.1 1 = .ok (.iload_n 3, 1) := by decide +kernel
theorem d_M_isOn_2 : decode q_M_isOn.2.1 2 = .ok (.imul, 1) := by decide +kernel
theorem d_M_isOn_3 : decode q_M_isOn.2.1 3 = .ok (.iload_n 1, 1) := by decide +kernel
theorem d_M_isOn_4 : decode q_M_isOn.2.1 4 = .ok (.iload_n 2, 1) := by decide +kernel
theorem d_M_isOn_5 : decode q_M_isOn.2.1 5 = .ok (.imul, 1) := by decide +kernel
theorem d_M_isOn_6 : decode q_M_isOn.2.1 6 = .ok (.if_icmp .eq 5, 3) := by decide +kernel
theorem d_M_isOn_11 : decode q_M_isOn.2.1 11 = .ok (.iload_n 0, 1) := by decide +kernel
theorem d_M_isOn_12 : decode q_M_isOn.2.1 12 = .ok (.iload_n 2, 1) := by decide +kernel
theorem d_M_isOn_13 : decode q_M_isOn.2.1 13 = .ok (.imul, 1) := by decide +kernel
theorem d_M_isOn_14 : decode q_M_isOn.2.1 14 = .ok (.iload_n 1, 1) := by decide +kernel
theorem d_M_isOn_15 : decode q_M_isOn.2.1 15 = .ok (.iload_n 3, 1) := by decide +kernel
theorem d_M_isOn_16 : decode q_M_isOn.2.1 16 = .ok (.imul, 1) := by decide +kernel
theorem d_M_isOn_17 : decode q_M_isOn.2.1 17 = .ok (.iadd, 1) := by decide +kernel
theorem d_M_isOn_18 : decode q_M_isOn.2.1 18 = .ok (.istore 4, 2) := by decide +kernel
theorem d_M_isOn_20 : decode q_M_isOn.2.1 20 = .ok (.iload 4, 2) := by decide +kernel
theorem d_M_isOn_22 : decode q_M_isOn.2.1 22 = .ok (.ifCond .le 19, 3) := by decide +kernel
theorem d_M_isOn_41 : decode q_M_isOn.2.1 41 = .ok (.iconst 0, 1) := by decide +kernel
theorem d_M_isOn_25 : decode q_M_isOn.2.1 25 = .ok (.iload 4, 2) := by decide +kernel
theorem d_M_isOn_27 : decode q_M_isOn.2.1 27 = .ok (.iload_n 0, 1) := by decide +kernel
theorem d_M_isOn_28 : decode q_M_isOn.2.1 28 = .ok (.iload_n 0, 1) := by decide +kernel
theorem d_M_isOn_29 : decode q_M_isOn.2.1 29 = .ok (.imul, 1) := by decide +kernel
theorem d_M_isOn_30 : decode q_M_isOn.2.1 30 = .ok (.iload_n 1, 1) := by decide +kernel
theorem d_M_isOn_31 : decode q_M_isOn.2.1 31 = .ok (.iload_n 1, 1) := by decide +kernel
theorem d_M_isOn_32 : decode q_M_isOn.2.1 32 = .ok (.imul, 1) := by decide +kernel
theorem d_M_isOn_33 : decode q_M_isOn.2.1 33 = .ok (.iadd, 1) := by decide +kernel
theorem d_M_isOn_34 : decode q_M_isOn.2.1 34 = .ok (.if_icmp .ge 7, 3) := by decide +kernel
theorem d_M_isOn_37 : decode q_M_isOn.2.1 37 = .ok (.iconst 1, 1) := by decide +kernel
theorem d_M_isOn_38 : decode q_M_isOn.2.1 38 = .ok (.goto 4, 3) := by decide +kernel
theorem d_M_isOn_42 : decode q_M_isOn.2.1 42 = .ok (.ireturn, 1) := by decide +kernel
theorem d_M_isOn_9 : decode q_M_isOn.2.1 9 = .ok (.iconst 0, 1) := by decide +kernel
theorem d_M_isOn_10 : decode q_M_isOn.2.1 10 = .ok (.ireturn, 1) := by decide +kernel
theorem d_M_layHang_0 : decode q_M_layHang.2.1 0 = .ok (.iload_n 3, 1) := by decide +kernel
theorem d_M_layHang_1 : decode q_M_layHang.2.1 1 = .ok (.ifCond .eq 8, 3) := by decide +kernel
theorem d_M_layHang_9 : decode q_M_layHang.2.1 9 = .ok (.iconst 1, 1) := by decide +kernel
theorem d_M_layHang_10 : decode q_M_layHang.2.1 10 = .ok (.goto 4, 3) := by decide +kernel
theorem d_M_layHang_4 : decode q_M_layHang.2.1 4 = .ok (.iload_n 3, 1) := by decide +kernel
theorem d_M_layHang_5 : decode q_M_layHang.2.1 5 = .ok (.iconst 1, 1) := by decide +kernel
theorem d_M_layHang_6 : decode q_M_layHang.2.1 6 = .ok (.if_icmp .ne 7, 3) := by decide +kernel
theorem d_M_layHang_13 : decode q_M_layHang.2.1 13 = .ok (.iconst 0, 1) := by decide +kernel
theorem d_M_layHang_14 : decode q_M_layHang.2.1 14 = .ok (.istore 4, 2) := by decide +kernel
theorem d_M_layHang_16 : decode q_M_layHang.2.1 16 = .ok (.iload 4, 2) := by decide +kernel
theorem d_M_layHang_18 : decode q_M_layHang.2.1 18 = .ok (.ifCond .eq 10, 3) := by decide +kernel
theorem d_M_layHang_28 : decode q_M_layHang.2.1 28 = .ok (.aload_n 0, 1) := by decide +kernel
theorem d_M_layHang_29 : decode q_M_layHang.2.1 29 = .ok (.getfield 242, 3) := by decide +kernel
theorem d_M_layHang_21 : decode q_M_layHang.2.1 21 = .ok (.aload_n 0, 1) := by decide +kernel
theorem d_M_layHang_22 : decode q_M_layHang.2.1 22 = .ok (.getfield 239, 3) := by decide +kernel
theorem d_M_layHang_25 : decode q_M_layHang.2.1 25 = .ok (.goto 7, 3) := by decide +kernel
theorem d_M_layHang_32 : decode q_M_layHang.2.1 32 = .ok (.istore 5, 2) := by decide +kernel
theorem d_M_layHang_34 : decode q_M_layHang.2.1 34 = .ok (.iload 4, 2) := by decide +kernel
theorem d_M_layHang_36 : decode q_M_layHang.2.1 36 = .ok (.ifCond .eq 12, 3) := by decide +kernel
theorem d_M_layHang_48 : decode q_M_layHang.2.1 48 = .ok (.aload_n 0, 1) := by decide +kernel
theorem d_M_layHang_49 : decode q_M_layHang.2.1 49 = .ok (.getfield 49, 3) := by decide +kernel
theorem d_M_layHang_52 : decode q_M_layHang.2.1 52 = .ok (.iload_n 1, 1) := by decide +kernel
theorem d_M_layHang_53 : decode q_M_layHang.2.1 53 = .ok (.iaload, 1) := by decide +kernel
theorem d_M_layHang_54 : decode q_M_layHang.2.1 54 = .ok (.istore 6, 2) := by decide +kernel
theorem d_M_layHang_56 : decode q_M_layHang.2.1 56 = .ok (.iload 4, 2) := by decide +kernel
theorem d_M_layHang_58 : decode q_M_layHang.2.1 58 = .ok (.ifCond .eq 12, 3) := by decide +kernel
theorem d_M_layHang_70 : decode q_M_layHang.2.1 70 = .ok (.aload_n 0, 1) := by decide +kernel
theorem d_M_layHang_71 : decode q_M_layHang.2.1 71 = .ok (.getfield 49, 3) := by decide +kernel
theorem d_M_layHang_74 : decode q_M_layHang.2.1 74 = .ok (.iload_n 2, 1) := by decide +kernel
theorem d_M_layHang_75 : decode q_M_layHang.2.1 75 = .ok (.iaload, 1) := by decide +kernel
theorem d_M_layHang_76 : decode q_M_layHang.2.1 76 = .ok (.istore 7, 2) := by decide +kernel
theorem d_M_layHang_78 : decode q_M_layHang.2.1 78 = .ok (.iload_n 3, 1) := by decide +kernel
theorem d_M_layHang_79 : decode q_M_layHang.2.1 79 = .ok (.iconst 2, 1) := by decide +kernel
theorem d_M_layHang_80 : decode q_M_layHang.2.1 80 = .ok (.irem, 1) := by decide +kernel
theorem d_M_layHang_81 : decode q_M_layHang.2.1 81 = .ok (.ifCond .ne 8, 3) := by decide +kernel
theorem d_M_layHang_84 : decode q_M_layHang.2.1 84 = .ok (.iload 6, 2) := by decide +kernel
theorem d_M_layHang_86 : decode q_M_layHang.2.1 86 = .ok (.goto 8, 3) := by decide +kernel
theorem d_M_layHang_89 : decode q_M_layHang.2.1 89 = .ok (.iload 5, 2) := by decide +kernel
theorem d_M_layHang_91 : decode q_M_layHang.2.1 91 = .ok (.iload 6, 2) := by decide +kernel
theorem d_M_layHang_93 : decode q_M_layHang.2.1 93 = .ok (.isub, 1) := by decide +kernel
theorem d_M_layHang_94 : decode q_M_layHang.2.1 94 = .ok (.istore 8, 2) := by decide +kernel
theorem d_M_layHang_96 : decode q_M_layHang.2.1 96 = .ok (.iload_n 3, 1) := by decide +kernel
theorem d_M_layHang_97 : decode q_M_layHang.2.1 97 = .ok (.iconst 2, 1) := by decide +kernel
theorem d_M_layHang_98 : decode q_M_layHang.2.1 98 = .ok (.irem, 1) := by decide +kernel
theorem d_M_layHang_99 : decode q_M_layHang.2.1 99 = .ok (.ifCond .ne 8, 3) := by decide +kernel
theorem d_M_layHang_102 : decode q_M_layHang.2.1 102 = .ok (.iload 7, 2) := by decide +kernel
theorem d_M_layHang_104 : decode q_M_layHang.2.1 104 = .ok (.goto 8, 3) := by decide +kernel
theorem d_M_layHang_107 : decode q_M_layHang.2.1 107 = .ok (.iload 5, 2) := by decide +kernel
theorem d_M_layHang_109 : decode q_M_layHang.2.1 109 = .ok (.iload 7, 2) := by decide +kernel
theorem d_M_layHang_111 : decode q_M_layHang.2.1 111 = .ok (.isub, 1) := by decide +kernel
theorem d_M_layHang_112 : decode q_M_layHang.2.1 112 = .ok (.istore 9, 2) := by decide +kernel
theorem d_M_layHang_114 : decode q_M_layHang.2.1 114 = .ok (.iload 4, 2) := by decide +kernel
theorem d_M_layHang_116 : decode q_M_layHang.2.1 116 = .ok (.ifCond .eq 12, 3) := by decide +kernel
theorem d_M_layHang_128 : decode q_M_layHang.2.1 128 = .ok (.aload_n 0, 1) := by decide +kernel
theorem d_M_layHang_129 : decode q_M_layHang.2.1 129 = .ok (.getfield 46, 3) := by decide +kernel
theorem d_M_layHang_132 : decode q_M_layHang.2.1 132 = .ok (.iload_n 1, 1) := by decide +kernel
theorem d_M_layHang_133 : decode q_M_layHang.2.1 133 = .ok (.iaload, 1) := by decide +kernel
theorem d_M_layHang_134 : decode q_M_layHang.2.1 134 = .ok (.istore 10, 2) := by decide +kernel
theorem d_M_layHang_136 : decode q_M_layHang.2.1 136 = .ok (.iload 4, 2) := by decide +kernel
theorem d_M_layHang_138 : decode q_M_layHang.2.1 138 = .ok (.ifCond .eq 12, 3) := by decide +kernel
theorem d_M_layHang_150 : decode q_M_layHang.2.1 150 = .ok (.aload_n 0, 1) := by decide +kernel
theorem d_M_layHang_151 : decode q_M_layHang.2.1 151 = .ok (.getfield 46, 3) := by decide +kernel
theorem d_M_layHang_154 : decode q_M_layHang.2.1 154 = .ok (.iload_n 2, 1) := by decide +kernel
theorem d_M_layHang_155 : decode q_M_layHang.2.1 155 = .ok (.iaload, 1) := by decide +kernel
theorem d_M_layHang_156 : decode q_M_layHang.2.1 156 = .ok (.istore 11, 2) := by decide +kernel
theorem d_M_layHang_158 : decode q_M_layHang.2.1 158 = .ok (.aload_n 0, 1) := by decide +kernel
theorem d_M_layHang_159 : decode q_M_layHang.2.1 159 = .ok (.iload 10, 2) := by decide +kernel
theorem d_M_layHang_161 : decode q_M_layHang.2.1 161 = .ok (.iload 9, 2) := by decide +kernel
theorem d_M_layHang_163 : decode q_M_layHang.2.1 163 = .ok (.imul, 1) := by decide +kernel
theorem d_M_layHang_164 : decode q_M_layHang.2.1 164 = .ok (.iload 11, 2) := by decide +kernel
theorem d_M_layHang_166 : decode q_M_layHang.2.1 166 = .ok (.iload 8, 2) := by decide +kernel
theorem d_M_layHang_168 : decode q_M_layHang.2.1 168 = .ok (.imul, 1) := by decide +kernel
theorem d_M_layHang_169 : decode q_M_layHang.2.1 169 = .ok (.iadd, 1) := by decide +kernel
theorem d_M_layHang_170 : decode q_M_layHang.2.1 170 = .ok (.putfield 362, 3) := by decide +kernel
theorem fp_M_362 : rx_FP "GlassRoomModel" 362 12 35 (.int) := ⟨(RX12, TX12, 45), tyX12, rfl, by decide, (rx_s5 134 rfl rfl), rx_T12, tyX12_ok, nmX12, rfl, rfl⟩
theorem d_M_layHang_173 : decode q_M_layHang.2.1 173 = .ok (.aload_n 0, 1) := by decide +kernel
theorem d_M_layHang_174 : decode q_M_layHang.2.1 174 = .ok (.iload 8, 2) := by decide +kernel
theorem d_M_layHang_176 : decode q_M_layHang.2.1 176 = .ok (.iload 9, 2) := by decide +kernel
theorem d_M_layHang_178 : decode q_M_layHang.2.1 178 = .ok (.iadd, 1) := by decide +kernel
theorem d_M_layHang_179 : decode q_M_layHang.2.1 179 = .ok (.putfield 365, 3) := by decide +kernel
theorem fp_M_365 : rx_FP "GlassRoomModel" 365 12 36 (.int) := ⟨(RX12, TX12, 45), tyX12, rfl, by decide, (rx_s5 135 rfl rfl), rx_T12, tyX12_ok, nmX12, rfl, rfl⟩
theorem d_M_layHang_182 : decode q_M_layHang.2.1 182 = .ok (.aload_n 0, 1) := by decide +kernel
theorem d_M_layHang_183 : decode q_M_layHang.2.1 183 = .ok (.getfield 365, 3) := by decide +kernel
theorem fl_M_365 : rx_F "GlassRoomModel" 365 12 36 := ⟨(RX12, TX12, 45), rfl, by decide, (rx_s5 135 rfl rfl), rx_T12⟩
theorem d_M_layHang_186 : decode q_M_layHang.2.1 186 = .ok (.ifCond .le 7, 3) := by decide +kernel
theorem d_M_layHang_193 : decode q_M_layHang.2.1 193 = .ok (.iconst 0, 1) := by decide +kernel
theorem d_M_layHang_189 : decode q_M_layHang.2.1 189 = .ok (.iconst 1, 1) := by decide +kernel
theorem d_M_layHang_190 : decode q_M_layHang.2.1 190 = .ok (.goto 4, 3) := by decide +kernel
theorem d_M_layHang_194 : decode q_M_layHang.2.1 194 = .ok (.ireturn, 1) := by decide +kernel
theorem d_M_layHang_39 : decode q_M_layHang.2.1 39 = .ok (.aload_n 0, 1) := by decide +kernel
theorem d_M_layHang_40 : decode q_M_layHang.2.1 40 = .ok (.getfield 46, 3) := by decide +kernel
theorem d_M_layHang_43 : decode q_M_layHang.2.1 43 = .ok (.iload_n 1, 1) := by decide +kernel
theorem d_M_layHang_44 : decode q_M_layHang.2.1 44 = .ok (.iaload, 1) := by decide +kernel
theorem d_M_layHang_45 : decode q_M_layHang.2.1 45 = .ok (.goto 9, 3) := by decide +kernel
theorem d_M_layHang_61 : decode q_M_layHang.2.1 61 = .ok (.aload_n 0, 1) := by decide +kernel
theorem d_M_layHang_62 : decode q_M_layHang.2.1 62 = .ok (.getfield 46, 3) := by decide +kernel
theorem d_M_layHang_65 : decode q_M_layHang.2.1 65 = .ok (.iload_n 2, 1) := by decide +kernel
theorem d_M_layHang_66 : decode q_M_layHang.2.1 66 = .ok (.iaload, 1) := by decide +kernel
theorem d_M_layHang_67 : decode q_M_layHang.2.1 67 = .ok (.goto 9, 3) := by decide +kernel
theorem d_M_layHang_119 : decode q_M_layHang.2.1 119 = .ok (.aload_n 0, 1) := by decide +kernel
theorem d_M_layHang_120 : decode q_M_layHang.2.1 120 = .ok (.getfield 49, 3) := by decide +kernel
theorem d_M_layHang_123 : decode q_M_layHang.2.1 123 = .ok (.iload_n 1, 1) := by decide +kernel
theorem d_M_layHang_124 : decode q_M_layHang.2.1 124 = .ok (.iaload, 1) := by decide +kernel
theorem d_M_layHang_125 : decode q_M_layHang.2.1 125 = .ok (.goto 9, 3) := by decide +kernel
theorem d_M_layHang_141 : decode q_M_layHang.2.1 141 = .ok (.aload_n 0, 1) := by decide +kernel
theorem d_M_layHang_142 : decode q_M_layHang.2.1 142 = .ok (.getfield 49, 3) := by decide +kernel
theorem d_M_layHang_145 : decode q_M_layHang.2.1 145 = .ok (.iload_n 2, 1) := by decide +kernel
theorem d_M_layHang_146 : decode q_M_layHang.2.1 146 = .ok (.iaload, 1) := by decide +kernel
theorem d_M_layHang_147 : decode q_M_layHang.2.1 147 = .ok (.goto 9, 3) := by decide +kernel
theorem d_M_photo_0 : decode q_M_photo.2.1 0 = .ok (.aload_n 0, 1) := by decide +kernel
theorem d_M_photo_1 : decode q_M_photo.2.1 1 = .ok (.iload_n 1, 1) := by decide +kernel
theorem d_M_photo_2 : decode q_M_photo.2.1 2 = .ok (.invokevirtual 267, 3) := by decide +kernel
theorem d_M_photo_5 : decode q_M_photo.2.1 5 = .ok (.ifCond .eq 23, 3) := by decide +kernel
theorem d_M_photo_28 : decode q_M_photo.2.1 28 = .ok (.iconst (-1), 1) := by decide +kernel
theorem d_M_photo_29 : decode q_M_photo.2.1 29 = .ok (.ireturn, 1) := by decide +kernel
theorem d_M_photo_8 : decode q_M_photo.2.1 8 = .ok (.iload_n 2, 1) := by decide +kernel
theorem d_M_photo_9 : decode q_M_photo.2.1 9 = .ok (.iconst 0, 1) := by decide +kernel
theorem d_M_photo_10 : decode q_M_photo.2.1 10 = .ok (.ldc_w 393, 3) := by decide +kernel
theorem ck_M_393 : Cond.constant "GlassRoomModel" 393 (99999) ∈ rx_gw := (rx_s7 127 rfl rfl)
theorem d_M_photo_13 : decode q_M_photo.2.1 13 = .ok (.invokestatic 198, 3) := by decide +kernel
theorem d_M_photo_16 : decode q_M_photo.2.1 16 = .ok (.ifCond .eq 12, 3) := by decide +kernel
theorem d_M_photo_19 : decode q_M_photo.2.1 19 = .ok (.aload_n 0, 1) := by decide +kernel
theorem d_M_photo_20 : decode q_M_photo.2.1 20 = .ok (.getfield 251, 3) := by decide +kernel
theorem fl_M_251 : rx_F "GlassRoomModel" 251 12 42 := ⟨(RX12, TX12, 45), rfl, by decide, (rx_s5 141 rfl rfl), rx_T12⟩
theorem d_M_photo_23 : decode q_M_photo.2.1 23 = .ok (.bipush 12, 2) := by decide +kernel
theorem d_M_photo_25 : decode q_M_photo.2.1 25 = .ok (.if_icmp .ne 5, 3) := by decide +kernel
theorem d_M_photo_30 : decode q_M_photo.2.1 30 = .ok (.aload_n 0, 1) := by decide +kernel
theorem d_M_photo_31 : decode q_M_photo.2.1 31 = .ok (.getfield 74, 3) := by decide +kernel
theorem fl_M_74 : rx_F "GlassRoomModel" 74 12 40 := ⟨(RX12, TX12, 45), rfl, by decide, (rx_s5 139 rfl rfl), rx_T12⟩
theorem d_M_photo_34 : decode q_M_photo.2.1 34 = .ok (.aload_n 0, 1) := by decide +kernel
theorem d_M_photo_35 : decode q_M_photo.2.1 35 = .ok (.getfield 251, 3) := by decide +kernel
theorem d_M_photo_38 : decode q_M_photo.2.1 38 = .ok (.iload_n 1, 1) := by decide +kernel
theorem d_M_photo_39 : decode q_M_photo.2.1 39 = .ok (.iastore, 1) := by decide +kernel
theorem d_M_photo_40 : decode q_M_photo.2.1 40 = .ok (.aload_n 0, 1) := by decide +kernel
theorem d_M_photo_41 : decode q_M_photo.2.1 41 = .ok (.getfield 77, 3) := by decide +kernel
theorem fl_M_77 : rx_F "GlassRoomModel" 77 12 41 := ⟨(RX12, TX12, 45), rfl, by decide, (rx_s5 140 rfl rfl), rx_T12⟩
theorem d_M_photo_44 : decode q_M_photo.2.1 44 = .ok (.aload_n 0, 1) := by decide +kernel
theorem d_M_photo_45 : decode q_M_photo.2.1 45 = .ok (.getfield 251, 3) := by decide +kernel
theorem d_M_photo_48 : decode q_M_photo.2.1 48 = .ok (.iload_n 2, 1) := by decide +kernel
theorem d_M_photo_49 : decode q_M_photo.2.1 49 = .ok (.iastore, 1) := by decide +kernel
theorem d_M_photo_50 : decode q_M_photo.2.1 50 = .ok (.aload_n 0, 1) := by decide +kernel
theorem d_M_photo_51 : decode q_M_photo.2.1 51 = .ok (.dup, 1) := by decide +kernel
theorem d_M_photo_52 : decode q_M_photo.2.1 52 = .ok (.getfield 251, 3) := by decide +kernel
theorem d_M_photo_55 : decode q_M_photo.2.1 55 = .ok (.iconst 1, 1) := by decide +kernel
theorem d_M_photo_56 : decode q_M_photo.2.1 56 = .ok (.iadd, 1) := by decide +kernel
theorem d_M_photo_57 : decode q_M_photo.2.1 57 = .ok (.putfield 251, 3) := by decide +kernel
theorem fp_M_251 : rx_FP "GlassRoomModel" 251 12 42 (.int) := ⟨(RX12, TX12, 45), tyX12, rfl, by decide, (rx_s5 141 rfl rfl), rx_T12, tyX12_ok, nmX12, rfl, rfl⟩
theorem d_M_photo_60 : decode q_M_photo.2.1 60 = .ok (.aload_n 0, 1) := by decide +kernel
theorem d_M_photo_61 : decode q_M_photo.2.1 61 = .ok (.getfield 251, 3) := by decide +kernel
theorem d_M_photo_64 : decode q_M_photo.2.1 64 = .ok (.ireturn, 1) := by decide +kernel
theorem d_M_count_0 : decode q_M_count.2.1 0 = .ok (.iload_n 1, 1) := by decide +kernel
theorem d_M_count_1 : decode q_M_count.2.1 1 = .ok (.tableswitch 105 0 9 #[55, 60, 65, 70, 75, 80, 85, 90, 95, 100], 55) := by decide +kernel
theorem d_M_count_56 : decode q_M_count.2.1 56 = .ok (.aload_n 0, 1) := by decide +kernel
theorem d_M_count_57 : decode q_M_count.2.1 57 = .ok (.getfield 236, 3) := by decide +kernel
theorem d_M_count_60 : decode q_M_count.2.1 60 = .ok (.ireturn, 1) := by decide +kernel
theorem d_M_count_61 : decode q_M_count.2.1 61 = .ok (.aload_n 0, 1) := by decide +kernel
theorem d_M_count_62 : decode q_M_count.2.1 62 = .ok (.getfield 239, 3) := by decide +kernel
theorem d_M_count_65 : decode q_M_count.2.1 65 = .ok (.ireturn, 1) := by decide +kernel
theorem d_M_count_66 : decode q_M_count.2.1 66 = .ok (.aload_n 0, 1) := by decide +kernel
theorem d_M_count_67 : decode q_M_count.2.1 67 = .ok (.getfield 242, 3) := by decide +kernel
theorem d_M_count_70 : decode q_M_count.2.1 70 = .ok (.ireturn, 1) := by decide +kernel
theorem d_M_count_71 : decode q_M_count.2.1 71 = .ok (.aload_n 0, 1) := by decide +kernel
theorem d_M_count_72 : decode q_M_count.2.1 72 = .ok (.getfield 245, 3) := by decide +kernel
theorem d_M_count_75 : decode q_M_count.2.1 75 = .ok (.ireturn, 1) := by decide +kernel
theorem d_M_count_76 : decode q_M_count.2.1 76 = .ok (.aload_n 0, 1) := by decide +kernel
theorem d_M_count_77 : decode q_M_count.2.1 77 = .ok (.getfield 248, 3) := by decide +kernel
theorem fl_M_248 : rx_F "GlassRoomModel" 248 12 27 := ⟨(RX12, TX12, 45), rfl, by decide, (rx_s5 126 rfl rfl), rx_T12⟩
theorem d_M_count_80 : decode q_M_count.2.1 80 = .ok (.ireturn, 1) := by decide +kernel
theorem d_M_count_81 : decode q_M_count.2.1 81 = .ok (.aload_n 0, 1) := by decide +kernel
theorem d_M_count_82 : decode q_M_count.2.1 82 = .ok (.getfield 264, 3) := by decide +kernel
theorem d_M_count_85 : decode q_M_count.2.1 85 = .ok (.ireturn, 1) := by decide +kernel
theorem d_M_count_86 : decode q_M_count.2.1 86 = .ok (.aload_n 0, 1) := by decide +kernel
theorem d_M_count_87 : decode q_M_count.2.1 87 = .ok (.getfield 90, 3) := by decide +kernel
theorem d_M_count_90 : decode q_M_count.2.1 90 = .ok (.ireturn, 1) := by decide +kernel
theorem d_M_count_91 : decode q_M_count.2.1 91 = .ok (.aload_n 0, 1) := by decide +kernel
theorem d_M_count_92 : decode q_M_count.2.1 92 = .ok (.getfield 55, 3) := by decide +kernel
theorem fl_M_55 : rx_F "GlassRoomModel" 55 12 28 := ⟨(RX12, TX12, 45), rfl, by decide, (rx_s5 127 rfl rfl), rx_T12⟩
theorem d_M_count_95 : decode q_M_count.2.1 95 = .ok (.ireturn, 1) := by decide +kernel
theorem d_M_count_96 : decode q_M_count.2.1 96 = .ok (.aload_n 0, 1) := by decide +kernel
theorem d_M_count_97 : decode q_M_count.2.1 97 = .ok (.getfield 251, 3) := by decide +kernel
theorem d_M_count_100 : decode q_M_count.2.1 100 = .ok (.ireturn, 1) := by decide +kernel
theorem d_M_count_101 : decode q_M_count.2.1 101 = .ok (.aload_n 0, 1) := by decide +kernel
theorem d_M_count_102 : decode q_M_count.2.1 102 = .ok (.getfield 254, 3) := by decide +kernel
theorem fl_M_254 : rx_F "GlassRoomModel" 254 12 30 := ⟨(RX12, TX12, 45), rfl, by decide, (rx_s5 129 rfl rfl), rx_T12⟩
theorem d_M_count_105 : decode q_M_count.2.1 105 = .ok (.ireturn, 1) := by decide +kernel
theorem d_M_count_106 : decode q_M_count.2.1 106 = .ok (.ldc_w 308, 3) := by decide +kernel
theorem ck_M_308 : Cond.constant "GlassRoomModel" 308 (-100000000) ∈ rx_gw := (rx_s6 193 rfl rfl)
theorem d_M_count_109 : decode q_M_count.2.1 109 = .ok (.ireturn, 1) := by decide +kernel
set_option maxHeartbeats 4000000 in
set_option maxRecDepth 20000 in
theorem w_M_in {Ω : rx_Om} {G : rx_Gh} {hp : rx_Hp} {F : Int32 → rx_Hp → Prop} (a1 : Int32) (a2 : Int32) (a3 : Int32) (H : F ((if a1 < a2 then 0 else ((if a3 < a1 then 0 else 1) : Int32)) : Int32) hp) : Ev Ω G 1 q_M_in [.int a1, .int a2, .int a3] hp (rI F) := by
  refine ev_of rfl (Nat.le_of_ble_eq_true rfl) rfl ?_
  show Rn Ω G 1 q_M_in 0 [some (.int a1), some (.int a2), some (.int a3)] [] hp (rI F)
  have J2 : ∀ (v2_0 : Int32), v2_0 = ((if a1 < a2 then 0 else ((if a3 < a1 then 0 else 1) : Int32)) : Int32) → Rn Ω G 1 q_M_in 15 [some (.int a1), some (.int a2), some (.int a3)] [.int v2_0] hp (rI F) := by
    rintro _ rfl
    exact rZ_ret d_M_in_15 rfl (rb_ite (Or.inl rfl) (rb_ite (Or.inl rfl) (Or.inr rfl))) H
  refine r_iload_n (i := 0) d_M_in_0 rfl rfl ?_
  refine r_iload_n (i := 1) d_M_in_1 rfl rfl ?_
  refine r_icmp_lt (tgt := 14) d_M_in_2 (by decide) (fun hc_2 => ?_) (fun hc_2 => ?_)
  · refine r_iconst d_M_in_14 ic_0 ?_
    exact J2 _ (((if_pos hc_2).trans rfl)).symm
  · refine r_iload_n (i := 0) d_M_in_5 rfl rfl ?_
    refine r_iload_n (i := 2) d_M_in_6 rfl rfl ?_
    refine r_icmp_gt (tgt := 14) d_M_in_7 (by decide) (fun hc_7 => ?_) (fun hc_7 => ?_)
    · refine r_iconst d_M_in_14 ic_0 ?_
      exact J2 _ (((if_neg hc_2).trans ((if_pos hc_7).trans rfl))).symm
    · refine r_iconst d_M_in_10 ic_1 ?_
      refine r_goto (tgt := 15) d_M_in_11 (by decide) ?_
      exact J2 _ (((if_neg hc_2).trans ((if_neg hc_7).trans rfl))).symm
def f_M_in (a1 : Int32) (a2 : Int32) (a3 : Int32) : Int32 := ((if a1 < a2 then 0 else ((if a3 < a1 then 0 else 1) : Int32)) : Int32)
theorem s_M_in {Ω : rx_Om} {G : rx_Gh} {hp : rx_Hp} {F : Int32 → rx_Hp → Prop} (a1 : Int32) (a2 : Int32) (a3 : Int32) (H0 : F (f_M_in a1 a2 a3) hp) : Ev Ω G 1 q_M_in [.int a1, .int a2, .int a3] hp (rI F) := by
  have H : ∀ v h, v = (f_M_in a1 a2 a3) → h = hp → F v h := by rintro _ _ rfl rfl; exact H0
  refine w_M_in a1 a2 a3  ?_
  exact H _ _ (rfl).symm (rfl).symm
theorem b_M_in (a1 : Int32) (a2 : Int32) (a3 : Int32) : (f_M_in a1 a2 a3) = 0 ∨ (f_M_in a1 a2 a3) = 1 := (rb_ite (Or.inl rfl) (rb_ite (Or.inl rfl) (Or.inr rfl)))
set_option maxHeartbeats 4000000 in
set_option maxRecDepth 20000 in
theorem w_M_has {Ω : rx_Om} {G : rx_Gh} {hp : rx_Hp} {F : Int32 → rx_Hp → Prop} (a1 : Int32) (a2 : Int32) (H : F ((if ((a1 >>> (a2 &&& 31)) &&& 1) = 1 then 1 else 0) : Int32) hp) : Ev Ω G 1 q_M_has [.int a1, .int a2] hp (rI F) := by
  refine ev_of rfl (Nat.le_of_ble_eq_true rfl) rfl ?_
  show Rn Ω G 1 q_M_has 0 [some (.int a1), some (.int a2)] [] hp (rI F)
  have J6 : ∀ (v6_0 : Int32), v6_0 = ((if ((a1 >>> (a2 &&& 31)) &&& 1) = 1 then 1 else 0) : Int32) → Rn Ω G 1 q_M_has 14 [some (.int a1), some (.int a2)] [.int v6_0] hp (rI F) := by
    rintro _ rfl
    exact rZ_ret d_M_has_14 rfl (rb_ite (Or.inr rfl) (Or.inl rfl)) H
  refine r_iload_n (i := 0) d_M_has_0 rfl rfl ?_
  refine r_iload_n (i := 1) d_M_has_1 rfl rfl ?_
  refine r_ishr d_M_has_2 ?_
  refine r_iconst d_M_has_3 ic_1 ?_
  refine r_iand d_M_has_4 ?_
  refine r_iconst d_M_has_5 ic_1 ?_
  refine r_icmp_ne (tgt := 13) d_M_has_6 (by decide) (fun hc_6 => ?_) (fun hc_6 => ?_)
  · refine r_iconst d_M_has_13 ic_0 ?_
    exact J6 _ (((if_neg hc_6).trans rfl)).symm
  · refine r_iconst d_M_has_9 ic_1 ?_
    refine r_goto (tgt := 14) d_M_has_10 (by decide) ?_
    exact J6 _ (((if_pos hc_6).trans rfl)).symm
def f_M_has (a1 : Int32) (a2 : Int32) : Int32 := ((if ((a1 >>> (a2 &&& 31)) &&& 1) = 1 then 1 else 0) : Int32)
theorem s_M_has {Ω : rx_Om} {G : rx_Gh} {hp : rx_Hp} {F : Int32 → rx_Hp → Prop} (a1 : Int32) (a2 : Int32) (H0 : F (f_M_has a1 a2) hp) : Ev Ω G 1 q_M_has [.int a1, .int a2] hp (rI F) := by
  have H : ∀ v h, v = (f_M_has a1 a2) → h = hp → F v h := by rintro _ _ rfl rfl; exact H0
  refine w_M_has a1 a2  ?_
  exact H _ _ (rfl).symm (rfl).symm
theorem b_M_has (a1 : Int32) (a2 : Int32) : (f_M_has a1 a2) = 0 ∨ (f_M_has a1 a2) = 1 := (rb_ite (Or.inr rfl) (Or.inl rfl))
set_option maxHeartbeats 4000000 in
set_option maxRecDepth 20000 in
theorem w_M_thrown {G : rx_Gh} {hp : rx_Hp} {F : Int32 → rx_Hp → Prop}  (H : F (hp.1 0 0) hp) : Ev wM G 1 q_M_thrown [.ref 0] hp (rI F) := by
  refine ev_of rfl (Nat.le_of_ble_eq_true rfl) rfl ?_
  show Rn wM G 1 q_M_thrown 0 [some (.ref 0)] [] hp (rI F)
  refine r_aload_n (i := 0) d_M_thrown_0 rfl rfl ?_
  refine r_getI (b := 0) (v := hp.1 0 0) d_M_thrown_1 fl_M_83 (by decide) rfl rfl rfl ?_
  exact rI_ret d_M_thrown_4 rfl H
def f_M_thrown  (hp : rx_Hp) : Int32 := hp.1 0 0
theorem s_M_thrown {G : rx_Gh} {hp : rx_Hp} {F : Int32 → rx_Hp → Prop}  (H0 : F (f_M_thrown hp) hp) : Ev wM G 1 q_M_thrown [.ref 0] hp (rI F) := by
  have H : ∀ v h, v = (f_M_thrown hp) → h = hp → F v h := by rintro _ _ rfl rfl; exact H0
  refine w_M_thrown   ?_
  exact H _ _ (rfl).symm (rfl).symm
set_option maxHeartbeats 4000000 in
set_option maxRecDepth 20000 in
theorem w_M_byteOf {Ω : rx_Om} {G : rx_Gh} {hp : rx_Hp} {F : Int32 → rx_Hp → Prop} (a1 : Int32) (a2 : Int32) (a3 : Int32) (a4 : Int32) (a5 : Int32) (a6 : Int32) (H : F ((((if 4 ≤ a6 then ((if 8 ≤ a6 then ((if 12 ≤ a6 then ((if 16 ≤ a6 then a5 else a4) : Int32) else a3) : Int32) else a2) : Int32) else a1) : Int32) >>> ((24 - (8 * (a6 - a6 / 4 * 4))) &&& 31)) &&& 255) hp) : Ev Ω G 1 q_M_byteOf [.int a1, .int a2, .int a3, .int a4, .int a5, .int a6] hp (rI F) := by
  refine ev_of rfl (Nat.le_of_ble_eq_true rfl) rfl ?_
  show Rn Ω G 1 q_M_byteOf 0 [some (.int a1), some (.int a2), some (.int a3), some (.int a4), some (.int a5), some (.int a6), none] [] hp (rI F)
  have J3 : ∀ (v3_0 : Int32), v3_0 = ((if 4 ≤ a6 then ((if 8 ≤ a6 then ((if 12 ≤ a6 then ((if 16 ≤ a6 then a5 else a4) : Int32) else a3) : Int32) else a2) : Int32) else a1) : Int32) → Rn Ω G 1 q_M_byteOf 45 [some (.int a1), some (.int a2), some (.int a3), some (.int a4), some (.int a5), some (.int a6), none] [.int v3_0] hp (rI F) := by
    rintro _ rfl
    refine r_istore (lz := [some (.int a1), some (.int a2), some (.int a3), some (.int a4), some (.int a5), some (.int a6), some (.int ((if 4 ≤ a6 then ((if 8 ≤ a6 then ((if 12 ≤ a6 then ((if 16 ≤ a6 then a5 else a4) : Int32) else a3) : Int32) else a2) : Int32) else a1) : Int32))]) d_M_byteOf_45 (by decide) rfl rfl ?_
    refine r_iload d_M_byteOf_47 rfl ?_
    refine r_bipush d_M_byteOf_49 bp_24 ?_
    refine r_bipush d_M_byteOf_51 bp_8 ?_
    refine r_iload d_M_byteOf_53 rfl ?_
    refine r_iconst d_M_byteOf_55 ic_4 ?_
    refine r_irem d_M_byteOf_56 (by decide) ?_
    refine r_imul d_M_byteOf_57 ?_
    refine r_isub d_M_byteOf_58 ?_
    refine r_ishr d_M_byteOf_59 ?_
    refine r_sipush d_M_byteOf_60 sp_255 ?_
    refine r_iand d_M_byteOf_63 ?_
    exact rI_ret d_M_byteOf_64 rfl H
  refine r_iload d_M_byteOf_0 rfl ?_
  refine r_iconst d_M_byteOf_2 ic_4 ?_
  refine r_icmp_ge (tgt := 10) d_M_byteOf_3 (by decide) (fun hc_3 => ?_) (fun hc_3 => ?_)
  · refine r_iload d_M_byteOf_10 rfl ?_
    refine r_bipush d_M_byteOf_12 bp_8 ?_
    refine r_icmp_ge (tgt := 21) d_M_byteOf_14 (by decide) (fun hc_14 => ?_) (fun hc_14 => ?_)
    · refine r_iload d_M_byteOf_21 rfl ?_
      refine r_bipush d_M_byteOf_23 bp_12 ?_
      refine r_icmp_ge (tgt := 32) d_M_byteOf_25 (by decide) (fun hc_25 => ?_) (fun hc_25 => ?_)
      · refine r_iload d_M_byteOf_32 rfl ?_
        refine r_bipush d_M_byteOf_34 bp_16 ?_
        refine r_icmp_ge (tgt := 43) d_M_byteOf_36 (by decide) (fun hc_36 => ?_) (fun hc_36 => ?_)
        · refine r_iload d_M_byteOf_43 rfl ?_
          exact J3 _ (((if_pos hc_3).trans ((if_pos hc_14).trans ((if_pos hc_25).trans ((if_pos hc_36).trans rfl))))).symm
        · refine r_iload_n (i := 3) d_M_byteOf_39 rfl rfl ?_
          refine r_goto (tgt := 45) d_M_byteOf_40 (by decide) ?_
          exact J3 _ (((if_pos hc_3).trans ((if_pos hc_14).trans ((if_pos hc_25).trans ((if_neg hc_36).trans rfl))))).symm
      · refine r_iload_n (i := 2) d_M_byteOf_28 rfl rfl ?_
        refine r_goto (tgt := 45) d_M_byteOf_29 (by decide) ?_
        exact J3 _ (((if_pos hc_3).trans ((if_pos hc_14).trans ((if_neg hc_25).trans rfl)))).symm
    · refine r_iload_n (i := 1) d_M_byteOf_17 rfl rfl ?_
      refine r_goto (tgt := 45) d_M_byteOf_18 (by decide) ?_
      exact J3 _ (((if_pos hc_3).trans ((if_neg hc_14).trans rfl))).symm
  · refine r_iload_n (i := 0) d_M_byteOf_6 rfl rfl ?_
    refine r_goto (tgt := 45) d_M_byteOf_7 (by decide) ?_
    exact J3 _ (((if_neg hc_3).trans rfl)).symm
def f_M_byteOf (a1 : Int32) (a2 : Int32) (a3 : Int32) (a4 : Int32) (a5 : Int32) (a6 : Int32) : Int32 := (((if 4 ≤ a6 then ((if 8 ≤ a6 then ((if 12 ≤ a6 then ((if 16 ≤ a6 then a5 else a4) : Int32) else a3) : Int32) else a2) : Int32) else a1) : Int32) >>> ((24 - (8 * (a6 - a6 / 4 * 4))) &&& 31)) &&& 255
theorem s_M_byteOf {Ω : rx_Om} {G : rx_Gh} {hp : rx_Hp} {F : Int32 → rx_Hp → Prop} (a1 : Int32) (a2 : Int32) (a3 : Int32) (a4 : Int32) (a5 : Int32) (a6 : Int32) (H0 : F (f_M_byteOf a1 a2 a3 a4 a5 a6) hp) : Ev Ω G 1 q_M_byteOf [.int a1, .int a2, .int a3, .int a4, .int a5, .int a6] hp (rI F) := by
  have H : ∀ v h, v = (f_M_byteOf a1 a2 a3 a4 a5 a6) → h = hp → F v h := by rintro _ _ rfl rfl; exact H0
  refine w_M_byteOf a1 a2 a3 a4 a5 a6  ?_
  exact H _ _ (rfl).symm (rfl).symm
set_option maxHeartbeats 4000000 in
set_option maxRecDepth 20000 in
theorem w_M_end {G : rx_Gh} {hp : rx_Hp} {F : Int32 → rx_Hp → Prop} (a1 : Int32) (H : (a1 < 0 → F 0 hp) ∧ (¬ a1 < 0 → (a1 ≤ (hp.1 0 2) → F 1 (rx_pf hp 0 2 a1)) ∧ (¬ a1 ≤ (hp.1 0 2) → F 0 hp))) : Ev wM G 1 q_M_end [.ref 0, .int a1] hp (rI F) := by
  refine ev_of rfl (Nat.le_of_ble_eq_true rfl) rfl ?_
  show Rn wM G 1 q_M_end 0 [some (.ref 0), some (.int a1)] [] hp (rI F)
  refine r_iload_n (i := 1) d_M_end_0 rfl rfl ?_
  refine r_if_lt (tgt := 12) d_M_end_1 (by decide) (fun hc_1 => ?_) (fun hc_1 => ?_)
  · replace H := H.1 hc_1
    refine r_iconst d_M_end_12 ic_0 ?_
    exact rZ_ret d_M_end_13 rfl (Or.inl rfl) H
  · replace H := H.2 hc_1
    refine r_iload_n (i := 1) d_M_end_4 rfl rfl ?_
    refine r_aload_n (i := 0) d_M_end_5 rfl rfl ?_
    refine r_getI (b := 0) (v := hp.1 0 2) d_M_end_6 fl_M_90 (by decide) rfl rfl rfl ?_
    refine r_icmp_le (tgt := 14) d_M_end_9 (by decide) (fun hc_9 => ?_) (fun hc_9 => ?_)
    · replace H := H.1 hc_9
      refine r_aload_n (i := 0) d_M_end_14 rfl rfl ?_
      refine r_iload_n (i := 1) d_M_end_15 rfl rfl ?_
      refine r_putI (b := 0) d_M_end_16 fp_M_90 ⟨rfl, rfl⟩ (by decide) rfl rfl ?_
      refine r_iconst d_M_end_19 ic_1 ?_
      exact rZ_ret d_M_end_20 rfl (Or.inr rfl) H
    · replace H := H.2 hc_9
      refine r_iconst d_M_end_12 ic_0 ?_
      exact rZ_ret d_M_end_13 rfl (Or.inl rfl) H
def f_M_end (a1 : Int32) (hp : rx_Hp) : Int32 := (if a1 < 0 then 0 else (if a1 ≤ (hp.1 0 2) then 1 else 0))
def g_M_end (a1 : Int32) (hp : rx_Hp) : rx_Hp := (if a1 < 0 then hp else (if a1 ≤ (hp.1 0 2) then (rx_pf hp 0 2 a1) else hp))
theorem s_M_end {G : rx_Gh} {hp : rx_Hp} {F : Int32 → rx_Hp → Prop} (a1 : Int32) (H0 : F (f_M_end a1 hp) (g_M_end a1 hp)) : Ev wM G 1 q_M_end [.ref 0, .int a1] hp (rI F) := by
  have H : ∀ v h, v = (f_M_end a1 hp) → h = (g_M_end a1 hp) → F v h := by rintro _ _ rfl rfl; exact H0
  refine w_M_end a1  ?_
  refine ⟨fun hc_1 => ?_, fun hc_1 => ?_⟩
  · exact H _ _ (((if_pos hc_1).trans rfl)).symm (((if_pos hc_1).trans rfl)).symm
  · refine ⟨fun hc_9 => ?_, fun hc_9 => ?_⟩
    · exact H _ _ (((if_neg hc_1).trans ((if_pos hc_9).trans rfl))).symm (((if_neg hc_1).trans ((if_pos hc_9).trans rfl))).symm
    · exact H _ _ (((if_neg hc_1).trans ((if_neg hc_9).trans rfl))).symm (((if_neg hc_1).trans ((if_neg hc_9).trans rfl))).symm
theorem b_M_end (a1 : Int32) (hp : rx_Hp) : (f_M_end a1 hp) = 0 ∨ (f_M_end a1 hp) = 1 := (rb_ite (Or.inl rfl) (rb_ite (Or.inr rfl) (Or.inl rfl)))
set_option maxHeartbeats 4000000 in
set_option maxRecDepth 20000 in
theorem w_M_here {G : rx_Gh} {hp : rx_Hp} {F : Int32 → rx_Hp → Prop}  (H : ((hp.1 0 2) ≤ (hp.1 0 3) → F (-1) hp) ∧ (¬ (hp.1 0 2) ≤ (hp.1 0 3) → vp_in (hp.1 0 3) 160 ∧ (F (hp.2.1 1 (hp.1 0 3).toNatClampNeg) hp))) : Ev wM G 1 q_M_here [.ref 0] hp (rI F) := by
  refine ev_of rfl (Nat.le_of_ble_eq_true rfl) rfl ?_
  show Rn wM G 1 q_M_here 0 [some (.ref 0)] [] hp (rI F)
  refine r_aload_n (i := 0) d_M_here_0 rfl rfl ?_
  refine r_getI (b := 0) (v := hp.1 0 3) d_M_here_1 fl_M_93 (by decide) rfl rfl rfl ?_
  refine r_aload_n (i := 0) d_M_here_4 rfl rfl ?_
  refine r_getI (b := 0) (v := hp.1 0 2) d_M_here_5 fl_M_90 (by decide) rfl rfl rfl ?_
  refine r_icmp_ge (tgt := 23) d_M_here_8 (by decide) (fun hc_8 => ?_) (fun hc_8 => ?_)
  · replace H := H.1 hc_8
    refine r_iconst d_M_here_23 ic_m1 ?_
    exact rI_ret d_M_here_24 rfl H
  · replace H := H.2 hc_8
    refine r_aload_n (i := 0) d_M_here_11 rfl rfl ?_
    refine r_getR (b := 0) (r := 1) d_M_here_12 fl_M_9 (by decide) rfl rfl rfl ?_
    refine r_aload_n (i := 0) d_M_here_15 rfl rfl ?_
    refine r_getI (b := 0) (v := hp.1 0 3) d_M_here_16 fl_M_93 (by decide) rfl rfl rfl ?_
    obtain ⟨hi_19, H⟩ := H
    refine r_iald (b := 1) (v := hp.2.1 1 (hp.1 0 3).toNatClampNeg) d_M_here_19 (by decide) rfl hi_19 rfl ?_
    refine r_goto (tgt := 24) d_M_here_20 (by decide) ?_
    exact rI_ret d_M_here_24 rfl H
def f_M_here  (hp : rx_Hp) : Int32 := (if (hp.1 0 2) ≤ (hp.1 0 3) then (-1) else (hp.2.1 1 (hp.1 0 3).toNatClampNeg))
def p_M_here  (hp : rx_Hp) : Prop := (¬ (hp.1 0 2) ≤ (hp.1 0 3) → vp_in (hp.1 0 3) 160)
theorem s_M_here {G : rx_Gh} {hp : rx_Hp} {F : Int32 → rx_Hp → Prop}  (hP : (p_M_here hp)) (H0 : F (f_M_here hp) hp) : Ev wM G 1 q_M_here [.ref 0] hp (rI F) := by
  have H : ∀ v h, v = (f_M_here hp) → h = hp → F v h := by rintro _ _ rfl rfl; exact H0
  unfold p_M_here at hP
  refine w_M_here   ?_
  refine ⟨fun hc_8 => ?_, fun hc_8 => ?_⟩
  · exact H _ _ (((if_pos hc_8).trans rfl)).symm (rfl).symm
  · refine ⟨(hP hc_8), ?_⟩
    exact H _ _ (((if_neg hc_8).trans rfl)).symm (rfl).symm
set_option maxHeartbeats 4000000 in
set_option maxRecDepth 20000 in
theorem w_M_bad {G : rx_Gh} {hp : rx_Hp} {F : rx_Hp → Prop}  (H : F (rx_pf hp 0 4 ((if (hp.1 0 4) = (-1) then (hp.1 0 3) else (hp.1 0 4)) : Int32))) : Ev wM G 1 q_M_bad [.ref 0] hp (rV F) := by
  refine ev_of rfl (Nat.le_of_ble_eq_true rfl) rfl ?_
  show Rn wM G 1 q_M_bad 0 [some (.ref 0)] [] hp (rV F)
  have J6 : ∀ (v6_0 : Int32), v6_0 = ((if (hp.1 0 4) = (-1) then (hp.1 0 3) else (hp.1 0 4)) : Int32) → Rn wM G 1 q_M_bad 20 [some (.ref 0)] [.int v6_0, .ref 0] hp (rV F) := by
    rintro _ rfl
    refine r_putI (b := 0) d_M_bad_20 fp_M_100 ⟨rfl, rfl⟩ (by decide) rfl rfl ?_
    exact rV_ret d_M_bad_23 rfl H
  refine r_aload_n (i := 0) d_M_bad_0 rfl rfl ?_
  refine r_aload_n (i := 0) d_M_bad_1 rfl rfl ?_
  refine r_getI (b := 0) (v := hp.1 0 4) d_M_bad_2 fl_M_100 (by decide) rfl rfl rfl ?_
  refine r_iconst d_M_bad_5 ic_m1 ?_
  refine r_icmp_ne (tgt := 16) d_M_bad_6 (by decide) (fun hc_6 => ?_) (fun hc_6 => ?_)
  · refine r_aload_n (i := 0) d_M_bad_16 rfl rfl ?_
    refine r_getI (b := 0) (v := hp.1 0 4) d_M_bad_17 fl_M_100 (by decide) rfl rfl rfl ?_
    exact J6 _ (((if_neg hc_6).trans rfl)).symm
  · refine r_aload_n (i := 0) d_M_bad_9 rfl rfl ?_
    refine r_getI (b := 0) (v := hp.1 0 3) d_M_bad_10 fl_M_93 (by decide) rfl rfl rfl ?_
    refine r_goto (tgt := 20) d_M_bad_13 (by decide) ?_
    exact J6 _ (((if_pos hc_6).trans rfl)).symm
def g_M_bad  (hp : rx_Hp) : rx_Hp := rx_pf hp 0 4 ((if (hp.1 0 4) = (-1) then (hp.1 0 3) else (hp.1 0 4)) : Int32)
theorem s_M_bad {G : rx_Gh} {hp : rx_Hp} {F : rx_Hp → Prop}  (H0 : F (g_M_bad hp)) : Ev wM G 1 q_M_bad [.ref 0] hp (rV F) := by
  have H : ∀ h, h = (g_M_bad hp) → F h := by rintro _ rfl; exact H0
  refine w_M_bad   ?_
  exact H _ (rfl).symm
set_option maxHeartbeats 4000000 in
set_option maxRecDepth 20000 in
theorem w_M_isDigit {Ω : rx_Om} {G : rx_Gh} {hp : rx_Hp} {F : Int32 → rx_Hp → Prop} (a1 : Int32) (H : F ((if a1 < 48 then 0 else ((if 57 < a1 then 0 else 1) : Int32)) : Int32) hp) : Ev Ω G 1 q_M_isDigit [.int a1] hp (rI F) := by
  refine ev_of rfl (Nat.le_of_ble_eq_true rfl) rfl ?_
  show Rn Ω G 1 q_M_isDigit 0 [some (.int a1)] [] hp (rI F)
  have J3 : ∀ (v3_0 : Int32), v3_0 = ((if a1 < 48 then 0 else ((if 57 < a1 then 0 else 1) : Int32)) : Int32) → Rn Ω G 1 q_M_isDigit 17 [some (.int a1)] [.int v3_0] hp (rI F) := by
    rintro _ rfl
    exact rZ_ret d_M_isDigit_17 rfl (rb_ite (Or.inl rfl) (rb_ite (Or.inl rfl) (Or.inr rfl))) H
  refine r_iload_n (i := 0) d_M_isDigit_0 rfl rfl ?_
  refine r_bipush d_M_isDigit_1 bp_48 ?_
  refine r_icmp_lt (tgt := 16) d_M_isDigit_3 (by decide) (fun hc_3 => ?_) (fun hc_3 => ?_)
  · refine r_iconst d_M_isDigit_16 ic_0 ?_
    exact J3 _ (((if_pos hc_3).trans rfl)).symm
  · refine r_iload_n (i := 0) d_M_isDigit_6 rfl rfl ?_
    refine r_bipush d_M_isDigit_7 bp_57 ?_
    refine r_icmp_gt (tgt := 16) d_M_isDigit_9 (by decide) (fun hc_9 => ?_) (fun hc_9 => ?_)
    · refine r_iconst d_M_isDigit_16 ic_0 ?_
      exact J3 _ (((if_neg hc_3).trans ((if_pos hc_9).trans rfl))).symm
    · refine r_iconst d_M_isDigit_12 ic_1 ?_
      refine r_goto (tgt := 17) d_M_isDigit_13 (by decide) ?_
      exact J3 _ (((if_neg hc_3).trans ((if_neg hc_9).trans rfl))).symm
def f_M_isDigit (a1 : Int32) : Int32 := ((if a1 < 48 then 0 else ((if 57 < a1 then 0 else 1) : Int32)) : Int32)
theorem s_M_isDigit {Ω : rx_Om} {G : rx_Gh} {hp : rx_Hp} {F : Int32 → rx_Hp → Prop} (a1 : Int32) (H0 : F (f_M_isDigit a1) hp) : Ev Ω G 1 q_M_isDigit [.int a1] hp (rI F) := by
  have H : ∀ v h, v = (f_M_isDigit a1) → h = hp → F v h := by rintro _ _ rfl rfl; exact H0
  refine w_M_isDigit a1  ?_
  exact H _ _ (rfl).symm (rfl).symm
theorem b_M_isDigit (a1 : Int32) : (f_M_isDigit a1) = 0 ∨ (f_M_isDigit a1) = 1 := (rb_ite (Or.inl rfl) (rb_ite (Or.inl rfl) (Or.inr rfl)))
set_option maxHeartbeats 4000000 in
set_option maxRecDepth 20000 in
theorem w_M_put {G : rx_Gh} {hp : rx_Hp} {F : rx_Hp → Prop} (a1 : Int32) (a2 : Int32) (H : vp_in (hp.1 0 14) 5 ∧ (vp_in ((340 * (hp.1 0 14)) + (hp.2.1 4 (hp.1 0 14).toNatClampNeg)) 1700 ∧ (F (rx_pa (rx_pa (rx_pa hp 2 (((340 * (hp.1 0 14)) + (hp.2.1 4 (hp.1 0 14).toNatClampNeg)).toNatClampNeg) a1) 3 (((340 * (hp.1 0 14)) + (hp.2.1 4 (hp.1 0 14).toNatClampNeg)).toNatClampNeg) a2) 4 ((hp.1 0 14).toNatClampNeg) ((hp.2.1 4 (hp.1 0 14).toNatClampNeg) + 1))))) : Ev wM G 1 q_M_put [.ref 0, .int a1, .int a2] hp (rV F) := by
  refine ev_of rfl (Nat.le_of_ble_eq_true rfl) rfl ?_
  show Rn wM G 1 q_M_put 0 [some (.ref 0), some (.int a1), some (.int a2)] [] hp (rV F)
  refine r_aload_n (i := 0) d_M_put_0 rfl rfl ?_
  refine r_getR (b := 0) (r := 2) d_M_put_1 fl_M_13 (by decide) rfl rfl rfl ?_
  refine r_sipush d_M_put_4 sp_340 ?_
  refine r_aload_n (i := 0) d_M_put_7 rfl rfl ?_
  refine r_getI (b := 0) (v := hp.1 0 14) d_M_put_8 fl_M_103 (by decide) rfl rfl rfl ?_
  refine r_imul d_M_put_11 ?_
  refine r_aload_n (i := 0) d_M_put_12 rfl rfl ?_
  refine r_getR (b := 0) (r := 4) d_M_put_13 fl_M_19 (by decide) rfl rfl rfl ?_
  refine r_aload_n (i := 0) d_M_put_16 rfl rfl ?_
  refine r_getI (b := 0) (v := hp.1 0 14) d_M_put_17 fl_M_103 (by decide) rfl rfl rfl ?_
  obtain ⟨hi_20, H⟩ := H
  refine r_iald (b := 4) (v := hp.2.1 4 (hp.1 0 14).toNatClampNeg) d_M_put_20 (by decide) rfl hi_20 rfl ?_
  refine r_iadd d_M_put_21 ?_
  refine r_iload_n (i := 1) d_M_put_22 rfl rfl ?_
  obtain ⟨hi_23, H⟩ := H
  refine r_iast (b := 2) (i := ((340 * (hp.1 0 14)) + (hp.2.1 4 (hp.1 0 14).toNatClampNeg)).toNatClampNeg) d_M_put_23 (by decide) rfl hi_23 rfl ?_
  refine r_aload_n (i := 0) d_M_put_24 rfl rfl ?_
  refine r_getR (b := 0) (r := 3) d_M_put_25 fl_M_16 (by decide) rfl rfl rfl ?_
  refine r_sipush d_M_put_28 sp_340 ?_
  refine r_aload_n (i := 0) d_M_put_31 rfl rfl ?_
  refine r_getI (b := 0) (v := hp.1 0 14) d_M_put_32 fl_M_103 (by decide) rfl rfl rfl ?_
  refine r_imul d_M_put_35 ?_
  refine r_aload_n (i := 0) d_M_put_36 rfl rfl ?_
  refine r_getR (b := 0) (r := 4) d_M_put_37 fl_M_19 (by decide) rfl rfl rfl ?_
  refine r_aload_n (i := 0) d_M_put_40 rfl rfl ?_
  refine r_getI (b := 0) (v := hp.1 0 14) d_M_put_41 fl_M_103 (by decide) rfl rfl rfl ?_
  refine r_iald (b := 4) (v := hp.2.1 4 (hp.1 0 14).toNatClampNeg) d_M_put_44 (by decide) rfl hi_20 rfl ?_
  refine r_iadd d_M_put_45 ?_
  refine r_iload_n (i := 2) d_M_put_46 rfl rfl ?_
  refine r_iast (b := 3) (i := ((340 * (hp.1 0 14)) + (hp.2.1 4 (hp.1 0 14).toNatClampNeg)).toNatClampNeg) d_M_put_47 (by decide) rfl hi_23 rfl ?_
  refine r_aload_n (i := 0) d_M_put_48 rfl rfl ?_
  refine r_getR (b := 0) (r := 4) d_M_put_49 fl_M_19 (by decide) rfl rfl rfl ?_
  refine r_aload_n (i := 0) d_M_put_52 rfl rfl ?_
  refine r_getI (b := 0) (v := hp.1 0 14) d_M_put_53 fl_M_103 (by decide) rfl rfl rfl ?_
  refine r_dup2 d_M_put_56 ?_
  refine r_iald (b := 4) (v := hp.2.1 4 (hp.1 0 14).toNatClampNeg) d_M_put_57 (by decide) rfl hi_20 rfl ?_
  refine r_iconst d_M_put_58 ic_1 ?_
  refine r_iadd d_M_put_59 ?_
  refine r_iast (b := 4) (i := (hp.1 0 14).toNatClampNeg) d_M_put_60 (by decide) rfl hi_20 rfl ?_
  exact rV_ret d_M_put_61 rfl H
def g_M_put (a1 : Int32) (a2 : Int32) (hp : rx_Hp) : rx_Hp := rx_pa (rx_pa (rx_pa hp 2 (((340 * (hp.1 0 14)) + (hp.2.1 4 (hp.1 0 14).toNatClampNeg)).toNatClampNeg) a1) 3 (((340 * (hp.1 0 14)) + (hp.2.1 4 (hp.1 0 14).toNatClampNeg)).toNatClampNeg) a2) 4 ((hp.1 0 14).toNatClampNeg) ((hp.2.1 4 (hp.1 0 14).toNatClampNeg) + 1)
def p_M_put (a1 : Int32) (a2 : Int32) (hp : rx_Hp) : Prop := vp_in (hp.1 0 14) 5 ∧ (vp_in ((340 * (hp.1 0 14)) + (hp.2.1 4 (hp.1 0 14).toNatClampNeg)) 1700)
theorem s_M_put {G : rx_Gh} {hp : rx_Hp} {F : rx_Hp → Prop} (a1 : Int32) (a2 : Int32) (hP : (p_M_put a1 a2 hp)) (H0 : F (g_M_put a1 a2 hp)) : Ev wM G 1 q_M_put [.ref 0, .int a1, .int a2] hp (rV F) := by
  have H : ∀ h, h = (g_M_put a1 a2 hp) → F h := by rintro _ rfl; exact H0
  unfold p_M_put at hP
  refine w_M_put a1 a2  ?_
  refine ⟨hP.1, ?_⟩
  refine ⟨hP.2, ?_⟩
  exact H _ (rfl).symm
set_option maxHeartbeats 4000000 in
set_option maxRecDepth 20000 in
theorem w_M_letterOf {Ω : rx_Om} {G : rx_Gh} {hp : rx_Hp} {F : Int32 → rx_Hp → Prop} (a1 : Int32) (H : F ((if a1 = 110 then 0 else ((if a1 = 102 then 1 else ((if a1 = 116 then 2 else ((if a1 = 105 then 3 else ((if a1 = 106 then 4 else ((if a1 = 98 then 5 else (-1)) : Int32)) : Int32)) : Int32)) : Int32)) : Int32)) : Int32) hp) : Ev Ω G 1 q_M_letterOf [.int a1] hp (rI F) := by
  refine ev_of rfl (Nat.le_of_ble_eq_true rfl) rfl ?_
  show Rn Ω G 1 q_M_letterOf 0 [some (.int a1)] [] hp (rI F)
  have J3 : ∀ (v3_0 : Int32), v3_0 = ((if a1 = 110 then 0 else ((if a1 = 102 then 1 else ((if a1 = 116 then 2 else ((if a1 = 105 then 3 else ((if a1 = 106 then 4 else ((if a1 = 98 then 5 else (-1)) : Int32)) : Int32)) : Int32)) : Int32)) : Int32)) : Int32) → Rn Ω G 1 q_M_letterOf 61 [some (.int a1)] [.int v3_0] hp (rI F) := by
    rintro _ rfl
    exact rI_ret d_M_letterOf_61 rfl H
  refine r_iload_n (i := 0) d_M_letterOf_0 rfl rfl ?_
  refine r_bipush d_M_letterOf_1 bp_110 ?_
  refine r_icmp_ne (tgt := 10) d_M_letterOf_3 (by decide) (fun hc_3 => ?_) (fun hc_3 => ?_)
  · refine r_iload_n (i := 0) d_M_letterOf_10 rfl rfl ?_
    refine r_bipush d_M_letterOf_11 bp_102 ?_
    refine r_icmp_ne (tgt := 20) d_M_letterOf_13 (by decide) (fun hc_13 => ?_) (fun hc_13 => ?_)
    · refine r_iload_n (i := 0) d_M_letterOf_20 rfl rfl ?_
      refine r_bipush d_M_letterOf_21 bp_116 ?_
      refine r_icmp_ne (tgt := 30) d_M_letterOf_23 (by decide) (fun hc_23 => ?_) (fun hc_23 => ?_)
      · refine r_iload_n (i := 0) d_M_letterOf_30 rfl rfl ?_
        refine r_bipush d_M_letterOf_31 bp_105 ?_
        refine r_icmp_ne (tgt := 40) d_M_letterOf_33 (by decide) (fun hc_33 => ?_) (fun hc_33 => ?_)
        · refine r_iload_n (i := 0) d_M_letterOf_40 rfl rfl ?_
          refine r_bipush d_M_letterOf_41 bp_106 ?_
          refine r_icmp_ne (tgt := 50) d_M_letterOf_43 (by decide) (fun hc_43 => ?_) (fun hc_43 => ?_)
          · refine r_iload_n (i := 0) d_M_letterOf_50 rfl rfl ?_
            refine r_bipush d_M_letterOf_51 bp_98 ?_
            refine r_icmp_ne (tgt := 60) d_M_letterOf_53 (by decide) (fun hc_53 => ?_) (fun hc_53 => ?_)
            · refine r_iconst d_M_letterOf_60 ic_m1 ?_
              exact J3 _ (((if_neg hc_3).trans ((if_neg hc_13).trans ((if_neg hc_23).trans ((if_neg hc_33).trans ((if_neg hc_43).trans ((if_neg hc_53).trans rfl))))))).symm
            · refine r_iconst d_M_letterOf_56 ic_5 ?_
              refine r_goto (tgt := 61) d_M_letterOf_57 (by decide) ?_
              exact J3 _ (((if_neg hc_3).trans ((if_neg hc_13).trans ((if_neg hc_23).trans ((if_neg hc_33).trans ((if_neg hc_43).trans ((if_pos hc_53).trans rfl))))))).symm
          · refine r_iconst d_M_letterOf_46 ic_4 ?_
            refine r_goto (tgt := 61) d_M_letterOf_47 (by decide) ?_
            exact J3 _ (((if_neg hc_3).trans ((if_neg hc_13).trans ((if_neg hc_23).trans ((if_neg hc_33).trans ((if_pos hc_43).trans rfl)))))).symm
        · refine r_iconst d_M_letterOf_36 ic_3 ?_
          refine r_goto (tgt := 61) d_M_letterOf_37 (by decide) ?_
          exact J3 _ (((if_neg hc_3).trans ((if_neg hc_13).trans ((if_neg hc_23).trans ((if_pos hc_33).trans rfl))))).symm
      · refine r_iconst d_M_letterOf_26 ic_2 ?_
        refine r_goto (tgt := 61) d_M_letterOf_27 (by decide) ?_
        exact J3 _ (((if_neg hc_3).trans ((if_neg hc_13).trans ((if_pos hc_23).trans rfl)))).symm
    · refine r_iconst d_M_letterOf_16 ic_1 ?_
      refine r_goto (tgt := 61) d_M_letterOf_17 (by decide) ?_
      exact J3 _ (((if_neg hc_3).trans ((if_pos hc_13).trans rfl))).symm
  · refine r_iconst d_M_letterOf_6 ic_0 ?_
    refine r_goto (tgt := 61) d_M_letterOf_7 (by decide) ?_
    exact J3 _ (((if_pos hc_3).trans rfl)).symm
def f_M_letterOf (a1 : Int32) : Int32 := ((if a1 = 110 then 0 else ((if a1 = 102 then 1 else ((if a1 = 116 then 2 else ((if a1 = 105 then 3 else ((if a1 = 106 then 4 else ((if a1 = 98 then 5 else (-1)) : Int32)) : Int32)) : Int32)) : Int32)) : Int32)) : Int32)
theorem s_M_letterOf {Ω : rx_Om} {G : rx_Gh} {hp : rx_Hp} {F : Int32 → rx_Hp → Prop} (a1 : Int32) (H0 : F (f_M_letterOf a1) hp) : Ev Ω G 1 q_M_letterOf [.int a1] hp (rI F) := by
  have H : ∀ v h, v = (f_M_letterOf a1) → h = hp → F v h := by rintro _ _ rfl rfl; exact H0
  refine w_M_letterOf a1  ?_
  exact H _ _ (rfl).symm (rfl).symm
set_option maxHeartbeats 4000000 in
set_option maxRecDepth 20000 in
theorem w_M_opens {G : rx_Gh} {hp : rx_Hp} {F : rx_Hp → Prop}  (H : ((hp.1 0 5) = 6 → F (rx_pf (rx_pf (g_M_bad hp) 0 5 (((g_M_bad hp).1 0 5) + 1)) 0 3 (((g_M_bad hp).1 0 3) + 1))) ∧ (¬ (hp.1 0 5) = 6 → F (rx_pf (rx_pf hp 0 5 ((hp.1 0 5) + 1)) 0 3 ((hp.1 0 3) + 1)))) : Ev wM G 2 q_M_opens [.ref 0] hp (rV F) := by
  refine ev_of rfl (Nat.le_of_ble_eq_true rfl) rfl ?_
  show Rn wM G 2 q_M_opens 0 [some (.ref 0)] [] hp (rV F)
  refine r_aload_n (i := 0) d_M_opens_0 rfl rfl ?_
  refine r_getI (b := 0) (v := hp.1 0 5) d_M_opens_1 fl_M_106 (by decide) rfl rfl rfl ?_
  refine r_bipush d_M_opens_4 bp_6 ?_
  refine r_icmp_ne (tgt := 13) d_M_opens_6 (by decide) (fun hc_6 => ?_) (fun hc_6 => ?_)
  · replace H := H.2 hc_6
    refine r_aload_n (i := 0) d_M_opens_13 rfl rfl ?_
    refine r_dupr d_M_opens_14 ?_
    refine r_getI (b := 0) (v := hp.1 0 5) d_M_opens_15 fl_M_106 (by decide) rfl rfl rfl ?_
    refine r_iconst d_M_opens_18 ic_1 ?_
    refine r_iadd d_M_opens_19 ?_
    refine r_putI (b := 0) d_M_opens_20 fp_M_106 ⟨rfl, rfl⟩ (by decide) rfl rfl ?_
    refine r_aload_n (i := 0) d_M_opens_23 rfl rfl ?_
    refine r_dupr d_M_opens_24 ?_
    refine r_getI (b := 0) (v := hp.1 0 3) d_M_opens_25 fl_M_93 (by decide) rfl rfl rfl ?_
    refine r_iconst d_M_opens_28 ic_1 ?_
    refine r_iadd d_M_opens_29 ?_
    refine r_putI (b := 0) d_M_opens_30 fp_M_93 ⟨rfl, rfl⟩ (by decide) rfl rfl ?_
    exact rV_ret d_M_opens_33 rfl H
  · replace H := H.1 hc_6
    refine r_aload_n (i := 0) d_M_opens_9 rfl rfl ?_
    refine rk_VV (b := 0) (d' := 1) [] [] d_M_opens_10 ml_M_109 rfl rfl (by decide) (by decide) rfl rfl (Nat.le_of_ble_eq_true rfl) (s_M_bad  ?_)
    refine r_aload_n (i := 0) d_M_opens_13 rfl rfl ?_
    refine r_dupr d_M_opens_14 ?_
    refine r_getI (b := 0) (v := (g_M_bad hp).1 0 5) d_M_opens_15 fl_M_106 (by decide) rfl rfl rfl ?_
    refine r_iconst d_M_opens_18 ic_1 ?_
    refine r_iadd d_M_opens_19 ?_
    refine r_putI (b := 0) d_M_opens_20 fp_M_106 ⟨rfl, rfl⟩ (by decide) rfl rfl ?_
    refine r_aload_n (i := 0) d_M_opens_23 rfl rfl ?_
    refine r_dupr d_M_opens_24 ?_
    refine r_getI (b := 0) (v := (g_M_bad hp).1 0 3) d_M_opens_25 fl_M_93 (by decide) rfl rfl rfl ?_
    refine r_iconst d_M_opens_28 ic_1 ?_
    refine r_iadd d_M_opens_29 ?_
    refine r_putI (b := 0) d_M_opens_30 fp_M_93 ⟨rfl, rfl⟩ (by decide) rfl rfl ?_
    exact rV_ret d_M_opens_33 rfl H
def g_M_opens  (hp : rx_Hp) : rx_Hp := (if (hp.1 0 5) = 6 then (rx_pf (rx_pf (g_M_bad hp) 0 5 (((g_M_bad hp).1 0 5) + 1)) 0 3 (((g_M_bad hp).1 0 3) + 1)) else (rx_pf (rx_pf hp 0 5 ((hp.1 0 5) + 1)) 0 3 ((hp.1 0 3) + 1)))
theorem s_M_opens {G : rx_Gh} {hp : rx_Hp} {F : rx_Hp → Prop}  (H0 : F (g_M_opens hp)) : Ev wM G 2 q_M_opens [.ref 0] hp (rV F) := by
  have H : ∀ h, h = (g_M_opens hp) → F h := by rintro _ rfl; exact H0
  refine w_M_opens   ?_
  refine ⟨fun hc_6 => ?_, fun hc_6 => ?_⟩
  · exact H _ (((if_pos hc_6).trans rfl)).symm
  · exact H _ (((if_neg hc_6).trans rfl)).symm
set_option maxHeartbeats 4000000 in
set_option maxRecDepth 20000 in
theorem w_M_isSign {Ω : rx_Om} {G : rx_Gh} {hp : rx_Hp} {F : Int32 → rx_Hp → Prop} (a1 : Int32) (H : F ((if a1 = 61 then 1 else ((if a1 = 60 then 1 else ((if a1 = 62 then 1 else 0) : Int32)) : Int32)) : Int32) hp) : Ev Ω G 1 q_M_isSign [.int a1] hp (rI F) := by
  refine ev_of rfl (Nat.le_of_ble_eq_true rfl) rfl ?_
  show Rn Ω G 1 q_M_isSign 0 [some (.int a1)] [] hp (rI F)
  have J3 : ∀ (v3_0 : Int32), v3_0 = ((if a1 = 61 then 1 else ((if a1 = 60 then 1 else ((if a1 = 62 then 1 else 0) : Int32)) : Int32)) : Int32) → Rn Ω G 1 q_M_isSign 23 [some (.int a1)] [.int v3_0] hp (rI F) := by
    rintro _ rfl
    exact rZ_ret d_M_isSign_23 rfl (rb_ite (Or.inr rfl) (rb_ite (Or.inr rfl) (rb_ite (Or.inr rfl) (Or.inl rfl)))) H
  refine r_iload_n (i := 0) d_M_isSign_0 rfl rfl ?_
  refine r_bipush d_M_isSign_1 bp_61 ?_
  refine r_icmp_eq (tgt := 18) d_M_isSign_3 (by decide) (fun hc_3 => ?_) (fun hc_3 => ?_)
  · refine r_iconst d_M_isSign_18 ic_1 ?_
    refine r_goto (tgt := 23) d_M_isSign_19 (by decide) ?_
    exact J3 _ (((if_pos hc_3).trans rfl)).symm
  · refine r_iload_n (i := 0) d_M_isSign_6 rfl rfl ?_
    refine r_bipush d_M_isSign_7 bp_60 ?_
    refine r_icmp_eq (tgt := 18) d_M_isSign_9 (by decide) (fun hc_9 => ?_) (fun hc_9 => ?_)
    · refine r_iconst d_M_isSign_18 ic_1 ?_
      refine r_goto (tgt := 23) d_M_isSign_19 (by decide) ?_
      exact J3 _ (((if_neg hc_3).trans ((if_pos hc_9).trans rfl))).symm
    · refine r_iload_n (i := 0) d_M_isSign_12 rfl rfl ?_
      refine r_bipush d_M_isSign_13 bp_62 ?_
      refine r_icmp_ne (tgt := 22) d_M_isSign_15 (by decide) (fun hc_15 => ?_) (fun hc_15 => ?_)
      · refine r_iconst d_M_isSign_22 ic_0 ?_
        exact J3 _ (((if_neg hc_3).trans ((if_neg hc_9).trans ((if_neg hc_15).trans rfl)))).symm
      · refine r_iconst d_M_isSign_18 ic_1 ?_
        refine r_goto (tgt := 23) d_M_isSign_19 (by decide) ?_
        exact J3 _ (((if_neg hc_3).trans ((if_neg hc_9).trans ((if_pos hc_15).trans rfl)))).symm
def f_M_isSign (a1 : Int32) : Int32 := ((if a1 = 61 then 1 else ((if a1 = 60 then 1 else ((if a1 = 62 then 1 else 0) : Int32)) : Int32)) : Int32)
theorem s_M_isSign {Ω : rx_Om} {G : rx_Gh} {hp : rx_Hp} {F : Int32 → rx_Hp → Prop} (a1 : Int32) (H0 : F (f_M_isSign a1) hp) : Ev Ω G 1 q_M_isSign [.int a1] hp (rI F) := by
  have H : ∀ v h, v = (f_M_isSign a1) → h = hp → F v h := by rintro _ _ rfl rfl; exact H0
  refine w_M_isSign a1  ?_
  exact H _ _ (rfl).symm (rfl).symm
theorem b_M_isSign (a1 : Int32) : (f_M_isSign a1) = 0 ∨ (f_M_isSign a1) = 1 := (rb_ite (Or.inr rfl) (rb_ite (Or.inr rfl) (rb_ite (Or.inr rfl) (Or.inl rfl))))
set_option maxHeartbeats 4000000 in
set_option maxRecDepth 20000 in
theorem w_M_open {G : rx_Gh} {hp : rx_Hp} {F : rx_Hp → Prop} (a1 : Int32) (H : vp_in a1 5 ∧ (F (rx_pa (rx_pa (rx_pf (rx_pf (rx_pf (rx_pf hp 0 14 a1) 0 3 0) 0 4 (-1)) 0 5 0) 4 a1.toNatClampNeg 0) 5 a1.toNatClampNeg 0))) : Ev wM G 1 q_M_open [.ref 0, .int a1] hp (rV F) := by
  refine ev_of rfl (Nat.le_of_ble_eq_true rfl) rfl ?_
  show Rn wM G 1 q_M_open 0 [some (.ref 0), some (.int a1)] [] hp (rV F)
  refine r_aload_n (i := 0) d_M_open_0 rfl rfl ?_
  refine r_iload_n (i := 1) d_M_open_1 rfl rfl ?_
  refine r_putI (b := 0) d_M_open_2 fp_M_103 ⟨rfl, rfl⟩ (by decide) rfl rfl ?_
  refine r_aload_n (i := 0) d_M_open_5 rfl rfl ?_
  refine r_iconst d_M_open_6 ic_0 ?_
  refine r_putI (b := 0) d_M_open_7 fp_M_93 ⟨rfl, rfl⟩ (by decide) rfl rfl ?_
  refine r_aload_n (i := 0) d_M_open_10 rfl rfl ?_
  refine r_iconst d_M_open_11 ic_m1 ?_
  refine r_putI (b := 0) d_M_open_12 fp_M_100 ⟨rfl, rfl⟩ (by decide) rfl rfl ?_
  refine r_aload_n (i := 0) d_M_open_15 rfl rfl ?_
  refine r_iconst d_M_open_16 ic_0 ?_
  refine r_putI (b := 0) d_M_open_17 fp_M_106 ⟨rfl, rfl⟩ (by decide) rfl rfl ?_
  refine r_aload_n (i := 0) d_M_open_20 rfl rfl ?_
  refine r_getR (b := 0) (r := 4) d_M_open_21 fl_M_19 (by decide) rfl rfl rfl ?_
  refine r_iload_n (i := 1) d_M_open_24 rfl rfl ?_
  refine r_iconst d_M_open_25 ic_0 ?_
  obtain ⟨hi_26, H⟩ := H
  refine r_iast (b := 4) (i := a1.toNatClampNeg) d_M_open_26 (by decide) rfl hi_26 rfl ?_
  refine r_aload_n (i := 0) d_M_open_27 rfl rfl ?_
  refine r_getR (b := 0) (r := 5) d_M_open_28 fl_M_22 (by decide) rfl rfl rfl ?_
  refine r_iload_n (i := 1) d_M_open_31 rfl rfl ?_
  refine r_iconst d_M_open_32 ic_0 ?_
  refine r_iast (b := 5) (i := a1.toNatClampNeg) d_M_open_33 (by decide) rfl hi_26 rfl ?_
  exact rV_ret d_M_open_34 rfl H
def g_M_open (a1 : Int32) (hp : rx_Hp) : rx_Hp := rx_pa (rx_pa (rx_pf (rx_pf (rx_pf (rx_pf hp 0 14 a1) 0 3 0) 0 4 (-1)) 0 5 0) 4 a1.toNatClampNeg 0) 5 a1.toNatClampNeg 0
def p_M_open (a1 : Int32) : Prop := vp_in a1 5
theorem s_M_open {G : rx_Gh} {hp : rx_Hp} {F : rx_Hp → Prop} (a1 : Int32) (hP : (p_M_open a1)) (H0 : F (g_M_open a1 hp)) : Ev wM G 1 q_M_open [.ref 0, .int a1] hp (rV F) := by
  have H : ∀ h, h = (g_M_open a1 hp) → F h := by rintro _ rfl; exact H0
  unfold p_M_open at hP
  refine w_M_open a1  ?_
  refine ⟨hP, ?_⟩
  exact H _ (rfl).symm
set_option maxHeartbeats 4000000 in
set_option maxRecDepth 20000 in
theorem w_M_bounded {Ω : rx_Om} {G : rx_Gh} {hp : rx_Hp} {F : Int32 → rx_Hp → Prop} (a1 : Int64) (H : F ((f_Mt_max1 (-1000000) (f_Mt_min1 1000000 a1)).toInt32) hp) : Ev Ω G 2 q_M_bounded [.long a1] hp (rI F) := by
  refine ev_of rfl (Nat.le_of_ble_eq_true rfl) rfl ?_
  show Rn Ω G 2 q_M_bounded 0 [some (.long a1), none] [] hp (rI F)
  refine r_ldc2 d_M_bounded_0 ck_M_173 ?_
  refine r_ldc2 d_M_bounded_3 ck_M_175 ?_
  refine r_lload_n (i := 0) d_M_bounded_6 rfl rfl ?_
  refine rk_SJ (d' := 1) [.long 1000000, .long a1] [.long (-1000000)] d_M_bounded_7 ml_M_177 rfl rfl (by decide) (Nat.le_of_ble_eq_true rfl) (s_Mt_min1 1000000 a1 ?_)
  refine rk_SJ (d' := 1) [.long (-1000000), .long (f_Mt_min1 1000000 a1)] [] d_M_bounded_10 ml_M_183 rfl rfl (by decide) (Nat.le_of_ble_eq_true rfl) (s_Mt_max1 (-1000000) (f_Mt_min1 1000000 a1) ?_)
  refine r_l2i d_M_bounded_13 ?_
  exact rI_ret d_M_bounded_14 rfl H
def f_M_bounded (a1 : Int64) : Int32 := (f_Mt_max1 (-1000000) (f_Mt_min1 1000000 a1)).toInt32
theorem s_M_bounded {Ω : rx_Om} {G : rx_Gh} {hp : rx_Hp} {F : Int32 → rx_Hp → Prop} (a1 : Int64) (H0 : F (f_M_bounded a1) hp) : Ev Ω G 2 q_M_bounded [.long a1] hp (rI F) := by
  have H : ∀ v h, v = (f_M_bounded a1) → h = hp → F v h := by rintro _ _ rfl rfl; exact H0
  refine w_M_bounded a1  ?_
  exact H _ _ (rfl).symm (rfl).symm
set_option maxHeartbeats 4000000 in
set_option maxRecDepth 20000 in
theorem w_M_worked {Ω : rx_Om} {G : rx_Gh} {hp : rx_Hp} {F : Int32 → rx_Hp → Prop} (a1 : Int32) (a2 : Int64) (a3 : Int64) (H : (a1 = 2 → F (f_M_bounded (a2 + a3)) hp) ∧ (a1 = 3 → F (f_M_bounded (a2 - a3)) hp) ∧ (a1 = 4 → F (f_M_bounded (a2 * a3)) hp) ∧ (a1 = 5 → ((lg_cmp a3 0) = 0 → F 0 hp) ∧ (¬ (lg_cmp a3 0) = 0 → ¬ a3 = 0 ∧ (F (f_M_bounded (a2 / a3)) hp))) ∧ (a1 = 6 → F ((if (lg_cmp a2 a3) = 0 then 1 else 0) : Int32) hp) ∧ (a1 = 7 → F ((if 0 ≤ (lg_cmp a2 a3) then 0 else 1) : Int32) hp) ∧ (a1 = 8 → F ((if (lg_cmp a2 a3) ≤ 0 then 0 else 1) : Int32) hp) ∧ (a1 = 10 → F ((if (lg_cmp a2 0) = 0 then 0 else ((if (lg_cmp a3 0) = 0 then 0 else 1) : Int32)) : Int32) hp) ∧ (¬ a1 = 2 → ¬ a1 = 3 → ¬ a1 = 4 → ¬ a1 = 5 → ¬ a1 = 6 → ¬ a1 = 7 → ¬ a1 = 8 → ¬ a1 = 10 → F ((if (lg_cmp a2 0) = 0 then ((if (lg_cmp a3 0) = 0 then 0 else 1) : Int32) else 1) : Int32) hp)) : Ev Ω G 3 q_M_worked [.int a1, .long a2, .long a3] hp (rI F) := by
  refine ev_of rfl (Nat.le_of_ble_eq_true rfl) rfl ?_
  show Rn Ω G 3 q_M_worked 0 [some (.int a1), some (.long a2), none, some (.long a3), none] [] hp (rI F)
  refine r_iload_n (i := 0) d_M_worked_0 rfl rfl ?_
  by_cases hs_1_2 : a1 = 2
  · replace H := H.1 hs_1_2
    refine r_tabIn (off := 51) (tgt := 52) d_M_worked_1 (by rw [hs_1_2]; decide) (by rw [hs_1_2]; decide) (by rw [hs_1_2]; decide) (by decide) ?_
    refine r_lload_n (i := 1) d_M_worked_52 rfl rfl ?_
    refine r_lload_n (i := 3) d_M_worked_53 rfl rfl ?_
    refine r_ladd d_M_worked_54 ?_
    refine rk_SI (d' := 2) [.long (a2 + a3)] [] d_M_worked_55 ml_M_186 rfl rfl (by decide) (Nat.le_of_ble_eq_true rfl) (s_M_bounded (a2 + a3) ?_)
    exact rI_ret d_M_worked_58 rfl H
  by_cases hs_1_3 : a1 = 3
  · replace H := H.2.1 hs_1_3
    refine r_tabIn (off := 58) (tgt := 59) d_M_worked_1 (by rw [hs_1_3]; decide) (by rw [hs_1_3]; decide) (by rw [hs_1_3]; decide) (by decide) ?_
    refine r_lload_n (i := 1) d_M_worked_59 rfl rfl ?_
    refine r_lload_n (i := 3) d_M_worked_60 rfl rfl ?_
    refine r_lsub d_M_worked_61 ?_
    refine rk_SI (d' := 2) [.long (a2 - a3)] [] d_M_worked_62 ml_M_186 rfl rfl (by decide) (Nat.le_of_ble_eq_true rfl) (s_M_bounded (a2 - a3) ?_)
    exact rI_ret d_M_worked_65 rfl H
  by_cases hs_1_4 : a1 = 4
  · replace H := H.2.2.1 hs_1_4
    refine r_tabIn (off := 65) (tgt := 66) d_M_worked_1 (by rw [hs_1_4]; decide) (by rw [hs_1_4]; decide) (by rw [hs_1_4]; decide) (by decide) ?_
    refine r_lload_n (i := 1) d_M_worked_66 rfl rfl ?_
    refine r_lload_n (i := 3) d_M_worked_67 rfl rfl ?_
    refine r_lmul d_M_worked_68 ?_
    refine rk_SI (d' := 2) [.long (a2 * a3)] [] d_M_worked_69 ml_M_186 rfl rfl (by decide) (Nat.le_of_ble_eq_true rfl) (s_M_bounded (a2 * a3) ?_)
    exact rI_ret d_M_worked_72 rfl H
  by_cases hs_1_5 : a1 = 5
  · replace H := H.2.2.2.1 hs_1_5
    refine r_tabIn (off := 72) (tgt := 73) d_M_worked_1 (by rw [hs_1_5]; decide) (by rw [hs_1_5]; decide) (by rw [hs_1_5]; decide) (by decide) ?_
    refine r_lload_n (i := 3) d_M_worked_73 rfl rfl ?_
    refine r_lconst (v := 0) d_M_worked_74 (by decide) ?_
    refine r_lcmp d_M_worked_75 ?_
    refine r_if_ne (tgt := 83) d_M_worked_76 (by decide) (fun hc_76 => ?_) (fun hc_76 => ?_)
    · replace H := H.2 hc_76
      refine r_lload_n (i := 1) d_M_worked_83 rfl rfl ?_
      refine r_lload_n (i := 3) d_M_worked_84 rfl rfl ?_
      obtain ⟨hz_85, H⟩ := H
      refine r_ldiv d_M_worked_85 hz_85 ?_
      refine rk_SI (d' := 2) [.long (a2 / a3)] [] d_M_worked_86 ml_M_186 rfl rfl (by decide) (Nat.le_of_ble_eq_true rfl) (s_M_bounded (a2 / a3) ?_)
      exact rI_ret d_M_worked_89 rfl H
    · replace H := H.1 hc_76
      refine r_iconst d_M_worked_79 ic_0 ?_
      refine r_goto (tgt := 89) d_M_worked_80 (by decide) ?_
      exact rI_ret d_M_worked_89 rfl H
  by_cases hs_1_6 : a1 = 6
  · replace H := H.2.2.2.2.1 hs_1_6
    refine r_tabIn (off := 89) (tgt := 90) d_M_worked_1 (by rw [hs_1_6]; decide) (by rw [hs_1_6]; decide) (by rw [hs_1_6]; decide) (by decide) ?_
    have J93 : ∀ (v93_0 : Int32), v93_0 = ((if (lg_cmp a2 a3) = 0 then 1 else 0) : Int32) → Rn Ω G 3 q_M_worked 101 [some (.int a1), some (.long a2), none, some (.long a3), none] [.int v93_0] hp (rI F) := by
      rintro _ rfl
      exact rI_ret d_M_worked_101 rfl H
    refine r_lload_n (i := 1) d_M_worked_90 rfl rfl ?_
    refine r_lload_n (i := 3) d_M_worked_91 rfl rfl ?_
    refine r_lcmp d_M_worked_92 ?_
    refine r_if_ne (tgt := 100) d_M_worked_93 (by decide) (fun hc_93 => ?_) (fun hc_93 => ?_)
    · refine r_iconst d_M_worked_100 ic_0 ?_
      exact J93 _ (((if_neg hc_93).trans rfl)).symm
    · refine r_iconst d_M_worked_96 ic_1 ?_
      refine r_goto (tgt := 101) d_M_worked_97 (by decide) ?_
      exact J93 _ (((if_pos hc_93).trans rfl)).symm
  by_cases hs_1_7 : a1 = 7
  · replace H := H.2.2.2.2.2.1 hs_1_7
    refine r_tabIn (off := 101) (tgt := 102) d_M_worked_1 (by rw [hs_1_7]; decide) (by rw [hs_1_7]; decide) (by rw [hs_1_7]; decide) (by decide) ?_
    have J105 : ∀ (v105_0 : Int32), v105_0 = ((if 0 ≤ (lg_cmp a2 a3) then 0 else 1) : Int32) → Rn Ω G 3 q_M_worked 113 [some (.int a1), some (.long a2), none, some (.long a3), none] [.int v105_0] hp (rI F) := by
      rintro _ rfl
      exact rI_ret d_M_worked_113 rfl H
    refine r_lload_n (i := 1) d_M_worked_102 rfl rfl ?_
    refine r_lload_n (i := 3) d_M_worked_103 rfl rfl ?_
    refine r_lcmp d_M_worked_104 ?_
    refine r_if_ge (tgt := 112) d_M_worked_105 (by decide) (fun hc_105 => ?_) (fun hc_105 => ?_)
    · refine r_iconst d_M_worked_112 ic_0 ?_
      exact J105 _ (((if_pos hc_105).trans rfl)).symm
    · refine r_iconst d_M_worked_108 ic_1 ?_
      refine r_goto (tgt := 113) d_M_worked_109 (by decide) ?_
      exact J105 _ (((if_neg hc_105).trans rfl)).symm
  by_cases hs_1_8 : a1 = 8
  · replace H := H.2.2.2.2.2.2.1 hs_1_8
    refine r_tabIn (off := 113) (tgt := 114) d_M_worked_1 (by rw [hs_1_8]; decide) (by rw [hs_1_8]; decide) (by rw [hs_1_8]; decide) (by decide) ?_
    have J117 : ∀ (v117_0 : Int32), v117_0 = ((if (lg_cmp a2 a3) ≤ 0 then 0 else 1) : Int32) → Rn Ω G 3 q_M_worked 125 [some (.int a1), some (.long a2), none, some (.long a3), none] [.int v117_0] hp (rI F) := by
      rintro _ rfl
      exact rI_ret d_M_worked_125 rfl H
    refine r_lload_n (i := 1) d_M_worked_114 rfl rfl ?_
    refine r_lload_n (i := 3) d_M_worked_115 rfl rfl ?_
    refine r_lcmp d_M_worked_116 ?_
    refine r_if_le (tgt := 124) d_M_worked_117 (by decide) (fun hc_117 => ?_) (fun hc_117 => ?_)
    · refine r_iconst d_M_worked_124 ic_0 ?_
      exact J117 _ (((if_pos hc_117).trans rfl)).symm
    · refine r_iconst d_M_worked_120 ic_1 ?_
      refine r_goto (tgt := 125) d_M_worked_121 (by decide) ?_
      exact J117 _ (((if_neg hc_117).trans rfl)).symm
  by_cases hs_1_10 : a1 = 10
  · replace H := H.2.2.2.2.2.2.2.1 hs_1_10
    refine r_tabIn (off := 125) (tgt := 126) d_M_worked_1 (by rw [hs_1_10]; decide) (by rw [hs_1_10]; decide) (by rw [hs_1_10]; decide) (by decide) ?_
    have J129 : ∀ (v129_0 : Int32), v129_0 = ((if (lg_cmp a2 0) = 0 then 0 else ((if (lg_cmp a3 0) = 0 then 0 else 1) : Int32)) : Int32) → Rn Ω G 3 q_M_worked 143 [some (.int a1), some (.long a2), none, some (.long a3), none] [.int v129_0] hp (rI F) := by
      rintro _ rfl
      exact rI_ret d_M_worked_143 rfl H
    refine r_lload_n (i := 1) d_M_worked_126 rfl rfl ?_
    refine r_lconst (v := 0) d_M_worked_127 (by decide) ?_
    refine r_lcmp d_M_worked_128 ?_
    refine r_if_eq (tgt := 142) d_M_worked_129 (by decide) (fun hc_129 => ?_) (fun hc_129 => ?_)
    · refine r_iconst d_M_worked_142 ic_0 ?_
      exact J129 _ (((if_pos hc_129).trans rfl)).symm
    · refine r_lload_n (i := 3) d_M_worked_132 rfl rfl ?_
      refine r_lconst (v := 0) d_M_worked_133 (by decide) ?_
      refine r_lcmp d_M_worked_134 ?_
      refine r_if_eq (tgt := 142) d_M_worked_135 (by decide) (fun hc_135 => ?_) (fun hc_135 => ?_)
      · refine r_iconst d_M_worked_142 ic_0 ?_
        exact J129 _ (((if_neg hc_129).trans ((if_pos hc_135).trans rfl))).symm
      · refine r_iconst d_M_worked_138 ic_1 ?_
        refine r_goto (tgt := 143) d_M_worked_139 (by decide) ?_
        exact J129 _ (((if_neg hc_129).trans ((if_neg hc_135).trans rfl))).symm
  replace H := H.2.2.2.2.2.2.2.2 hs_1_2 hs_1_3 hs_1_4 hs_1_5 hs_1_6 hs_1_7 hs_1_8 hs_1_10
  by_cases hg_1_9 : a1 = 9
  · refine r_tabIn (off := 143) (tgt := 144) d_M_worked_1 (by rw [hg_1_9]; decide) (by rw [hg_1_9]; decide) (by rw [hg_1_9]; decide) (by decide) ?_
    have J147 : ∀ (v147_0 : Int32), v147_0 = ((if (lg_cmp a2 0) = 0 then ((if (lg_cmp a3 0) = 0 then 0 else 1) : Int32) else 1) : Int32) → Rn Ω G 3 q_M_worked 161 [some (.int a1), some (.long a2), none, some (.long a3), none] [.int v147_0] hp (rI F) := by
      rintro _ rfl
      exact rI_ret d_M_worked_161 rfl H
    refine r_lload_n (i := 1) d_M_worked_144 rfl rfl ?_
    refine r_lconst (v := 0) d_M_worked_145 (by decide) ?_
    refine r_lcmp d_M_worked_146 ?_
    refine r_if_ne (tgt := 156) d_M_worked_147 (by decide) (fun hc_147 => ?_) (fun hc_147 => ?_)
    · refine r_iconst d_M_worked_156 ic_1 ?_
      refine r_goto (tgt := 161) d_M_worked_157 (by decide) ?_
      exact J147 _ (((if_neg hc_147).trans rfl)).symm
    · refine r_lload_n (i := 3) d_M_worked_150 rfl rfl ?_
      refine r_lconst (v := 0) d_M_worked_151 (by decide) ?_
      refine r_lcmp d_M_worked_152 ?_
      refine r_if_eq (tgt := 160) d_M_worked_153 (by decide) (fun hc_153 => ?_) (fun hc_153 => ?_)
      · refine r_iconst d_M_worked_160 ic_0 ?_
        exact J147 _ (((if_pos hc_147).trans ((if_pos hc_153).trans rfl))).symm
      · refine r_iconst d_M_worked_156 ic_1 ?_
        refine r_goto (tgt := 161) d_M_worked_157 (by decide) ?_
        exact J147 _ (((if_pos hc_147).trans ((if_neg hc_153).trans rfl))).symm
  refine r_tabOut (tgt := 144) d_M_worked_1 (rx_tab (lo := 2) (hi := 10) (by decide) (by decide) (fun i h1 h2 => ?_)) (by decide) ?_
  · have hz : i = 2 ∨ i = 3 ∨ i = 4 ∨ i = 5 ∨ i = 6 ∨ i = 7 ∨ i = 8 ∨ i = 9 ∨ i = 10 := by omega
    rcases hz with rfl | rfl | rfl | rfl | rfl | rfl | rfl | rfl | rfl
    · exact hs_1_2
    · exact hs_1_3
    · exact hs_1_4
    · exact hs_1_5
    · exact hs_1_6
    · exact hs_1_7
    · exact hs_1_8
    · exact hg_1_9
    · exact hs_1_10
  have J147 : ∀ (v147_0 : Int32), v147_0 = ((if (lg_cmp a2 0) = 0 then ((if (lg_cmp a3 0) = 0 then 0 else 1) : Int32) else 1) : Int32) → Rn Ω G 3 q_M_worked 161 [some (.int a1), some (.long a2), none, some (.long a3), none] [.int v147_0] hp (rI F) := by
    rintro _ rfl
    exact rI_ret d_M_worked_161 rfl H
  refine r_lload_n (i := 1) d_M_worked_144 rfl rfl ?_
  refine r_lconst (v := 0) d_M_worked_145 (by decide) ?_
  refine r_lcmp d_M_worked_146 ?_
  refine r_if_ne (tgt := 156) d_M_worked_147 (by decide) (fun hc_147 => ?_) (fun hc_147 => ?_)
  · refine r_iconst d_M_worked_156 ic_1 ?_
    refine r_goto (tgt := 161) d_M_worked_157 (by decide) ?_
    exact J147 _ (((if_neg hc_147).trans rfl)).symm
  · refine r_lload_n (i := 3) d_M_worked_150 rfl rfl ?_
    refine r_lconst (v := 0) d_M_worked_151 (by decide) ?_
    refine r_lcmp d_M_worked_152 ?_
    refine r_if_eq (tgt := 160) d_M_worked_153 (by decide) (fun hc_153 => ?_) (fun hc_153 => ?_)
    · refine r_iconst d_M_worked_160 ic_0 ?_
      exact J147 _ (((if_pos hc_147).trans ((if_pos hc_153).trans rfl))).symm
    · refine r_iconst d_M_worked_156 ic_1 ?_
      refine r_goto (tgt := 161) d_M_worked_157 (by decide) ?_
      exact J147 _ (((if_pos hc_147).trans ((if_neg hc_153).trans rfl))).symm
def f_M_worked (a1 : Int32) (a2 : Int64) (a3 : Int64) : Int32 := (if a1 = 2 then (f_M_bounded (a2 + a3)) else (if a1 = 3 then (f_M_bounded (a2 - a3)) else (if a1 = 4 then (f_M_bounded (a2 * a3)) else (if a1 = 5 then (if (lg_cmp a3 0) = 0 then 0 else (f_M_bounded (a2 / a3))) else (if a1 = 6 then ((if (lg_cmp a2 a3) = 0 then 1 else 0) : Int32) else (if a1 = 7 then ((if 0 ≤ (lg_cmp a2 a3) then 0 else 1) : Int32) else (if a1 = 8 then ((if (lg_cmp a2 a3) ≤ 0 then 0 else 1) : Int32) else (if a1 = 10 then ((if (lg_cmp a2 0) = 0 then 0 else ((if (lg_cmp a3 0) = 0 then 0 else 1) : Int32)) : Int32) else ((if (lg_cmp a2 0) = 0 then ((if (lg_cmp a3 0) = 0 then 0 else 1) : Int32) else 1) : Int32)))))))))
def p_M_worked (a1 : Int32) (a2 : Int64) (a3 : Int64) : Prop := (a1 = 5 → (¬ (lg_cmp a3 0) = 0 → ¬ a3 = 0))
theorem s_M_worked {Ω : rx_Om} {G : rx_Gh} {hp : rx_Hp} {F : Int32 → rx_Hp → Prop} (a1 : Int32) (a2 : Int64) (a3 : Int64) (hP : (p_M_worked a1 a2 a3)) (H0 : F (f_M_worked a1 a2 a3) hp) : Ev Ω G 3 q_M_worked [.int a1, .long a2, .long a3] hp (rI F) := by
  have H : ∀ v h, v = (f_M_worked a1 a2 a3) → h = hp → F v h := by rintro _ _ rfl rfl; exact H0
  unfold p_M_worked at hP
  refine w_M_worked a1 a2 a3  ?_
  refine ⟨fun s2 => ?_, fun s3 => ?_, fun s4 => ?_, fun s5 => ?_, fun s6 => ?_, fun s7 => ?_, fun s8 => ?_, fun s10 => ?_, fun s2 s3 s4 s5 s6 s7 s8 s10 => ?_⟩
  · exact H _ _ (((if_pos s2).trans rfl)).symm (rfl).symm
  · exact H _ _ (((if_neg (rx_ne s3 (by decide))).trans ((if_pos s3).trans rfl))).symm (rfl).symm
  · exact H _ _ (((if_neg (rx_ne s4 (by decide))).trans ((if_neg (rx_ne s4 (by decide))).trans ((if_pos s4).trans rfl)))).symm (rfl).symm
  · refine ⟨fun hc_76 => ?_, fun hc_76 => ?_⟩
    · exact H _ _ (((if_neg (rx_ne s5 (by decide))).trans ((if_neg (rx_ne s5 (by decide))).trans ((if_neg (rx_ne s5 (by decide))).trans ((if_pos s5).trans ((if_pos hc_76).trans rfl)))))).symm (rfl).symm
    · refine ⟨((hP s5) hc_76), ?_⟩
      exact H _ _ (((if_neg (rx_ne s5 (by decide))).trans ((if_neg (rx_ne s5 (by decide))).trans ((if_neg (rx_ne s5 (by decide))).trans ((if_pos s5).trans ((if_neg hc_76).trans rfl)))))).symm (rfl).symm
  · exact H _ _ (((if_neg (rx_ne s6 (by decide))).trans ((if_neg (rx_ne s6 (by decide))).trans ((if_neg (rx_ne s6 (by decide))).trans ((if_neg (rx_ne s6 (by decide))).trans ((if_pos s6).trans rfl)))))).symm (rfl).symm
  · exact H _ _ (((if_neg (rx_ne s7 (by decide))).trans ((if_neg (rx_ne s7 (by decide))).trans ((if_neg (rx_ne s7 (by decide))).trans ((if_neg (rx_ne s7 (by decide))).trans ((if_neg (rx_ne s7 (by decide))).trans ((if_pos s7).trans rfl))))))).symm (rfl).symm
  · exact H _ _ (((if_neg (rx_ne s8 (by decide))).trans ((if_neg (rx_ne s8 (by decide))).trans ((if_neg (rx_ne s8 (by decide))).trans ((if_neg (rx_ne s8 (by decide))).trans ((if_neg (rx_ne s8 (by decide))).trans ((if_neg (rx_ne s8 (by decide))).trans ((if_pos s8).trans rfl)))))))).symm (rfl).symm
  · exact H _ _ (((if_neg (rx_ne s10 (by decide))).trans ((if_neg (rx_ne s10 (by decide))).trans ((if_neg (rx_ne s10 (by decide))).trans ((if_neg (rx_ne s10 (by decide))).trans ((if_neg (rx_ne s10 (by decide))).trans ((if_neg (rx_ne s10 (by decide))).trans ((if_neg (rx_ne s10 (by decide))).trans ((if_pos s10).trans rfl))))))))).symm (rfl).symm
  · exact H _ _ (((if_neg s2).trans ((if_neg s3).trans ((if_neg s4).trans ((if_neg s5).trans ((if_neg s6).trans ((if_neg s7).trans ((if_neg s8).trans ((if_neg s10).trans rfl))))))))).symm (rfl).symm
set_option maxHeartbeats 4000000 in
set_option maxRecDepth 20000 in
theorem w_M_itemOf {Ω : rx_Om} {G : rx_Gh} {hp : rx_Hp} {F : Int32 → rx_Hp → Prop} (a1 : Int32) (a2 : Int32) (H : (a1 = 114 → F ((if a2 = 119 then 0 else ((if a2 = 104 then 1 else ((if a2 = 103 then 2 else ((if a2 = 116 then 3 else (-1)) : Int32)) : Int32)) : Int32)) : Int32) hp) ∧ (¬ a1 = 114 → F ((if a2 = 120 then 0 else ((if a2 = 121 then 1 else ((if a2 = 97 then 2 else (-1)) : Int32)) : Int32)) : Int32) hp)) : Ev Ω G 1 q_M_itemOf [.int a1, .int a2] hp (rI F) := by
  refine ev_of rfl (Nat.le_of_ble_eq_true rfl) rfl ?_
  show Rn Ω G 1 q_M_itemOf 0 [some (.int a1), some (.int a2)] [] hp (rI F)
  refine r_iload_n (i := 0) d_M_itemOf_0 rfl rfl ?_
  refine r_bipush d_M_itemOf_1 bp_114 ?_
  refine r_icmp_ne (tgt := 48) d_M_itemOf_3 (by decide) (fun hc_3 => ?_) (fun hc_3 => ?_)
  · replace H := H.2 hc_3
    have J51 : ∀ (v51_0 : Int32), v51_0 = ((if a2 = 120 then 0 else ((if a2 = 121 then 1 else ((if a2 = 97 then 2 else (-1)) : Int32)) : Int32)) : Int32) → Rn Ω G 1 q_M_itemOf 79 [some (.int a1), some (.int a2)] [.int v51_0] hp (rI F) := by
      rintro _ rfl
      exact rI_ret d_M_itemOf_79 rfl H
    refine r_iload_n (i := 1) d_M_itemOf_48 rfl rfl ?_
    refine r_bipush d_M_itemOf_49 bp_120 ?_
    refine r_icmp_ne (tgt := 58) d_M_itemOf_51 (by decide) (fun hc_51 => ?_) (fun hc_51 => ?_)
    · refine r_iload_n (i := 1) d_M_itemOf_58 rfl rfl ?_
      refine r_bipush d_M_itemOf_59 bp_121 ?_
      refine r_icmp_ne (tgt := 68) d_M_itemOf_61 (by decide) (fun hc_61 => ?_) (fun hc_61 => ?_)
      · refine r_iload_n (i := 1) d_M_itemOf_68 rfl rfl ?_
        refine r_bipush d_M_itemOf_69 bp_97 ?_
        refine r_icmp_ne (tgt := 78) d_M_itemOf_71 (by decide) (fun hc_71 => ?_) (fun hc_71 => ?_)
        · refine r_iconst d_M_itemOf_78 ic_m1 ?_
          exact J51 _ (((if_neg hc_51).trans ((if_neg hc_61).trans ((if_neg hc_71).trans rfl)))).symm
        · refine r_iconst d_M_itemOf_74 ic_2 ?_
          refine r_goto (tgt := 79) d_M_itemOf_75 (by decide) ?_
          exact J51 _ (((if_neg hc_51).trans ((if_neg hc_61).trans ((if_pos hc_71).trans rfl)))).symm
      · refine r_iconst d_M_itemOf_64 ic_1 ?_
        refine r_goto (tgt := 79) d_M_itemOf_65 (by decide) ?_
        exact J51 _ (((if_neg hc_51).trans ((if_pos hc_61).trans rfl))).symm
    · refine r_iconst d_M_itemOf_54 ic_0 ?_
      refine r_goto (tgt := 79) d_M_itemOf_55 (by decide) ?_
      exact J51 _ (((if_pos hc_51).trans rfl)).symm
  · replace H := H.1 hc_3
    have J9 : ∀ (v9_0 : Int32), v9_0 = ((if a2 = 119 then 0 else ((if a2 = 104 then 1 else ((if a2 = 103 then 2 else ((if a2 = 116 then 3 else (-1)) : Int32)) : Int32)) : Int32)) : Int32) → Rn Ω G 1 q_M_itemOf 47 [some (.int a1), some (.int a2)] [.int v9_0] hp (rI F) := by
      rintro _ rfl
      exact rI_ret d_M_itemOf_47 rfl H
    refine r_iload_n (i := 1) d_M_itemOf_6 rfl rfl ?_
    refine r_bipush d_M_itemOf_7 bp_119 ?_
    refine r_icmp_ne (tgt := 16) d_M_itemOf_9 (by decide) (fun hc_9 => ?_) (fun hc_9 => ?_)
    · refine r_iload_n (i := 1) d_M_itemOf_16 rfl rfl ?_
      refine r_bipush d_M_itemOf_17 bp_104 ?_
      refine r_icmp_ne (tgt := 26) d_M_itemOf_19 (by decide) (fun hc_19 => ?_) (fun hc_19 => ?_)
      · refine r_iload_n (i := 1) d_M_itemOf_26 rfl rfl ?_
        refine r_bipush d_M_itemOf_27 bp_103 ?_
        refine r_icmp_ne (tgt := 36) d_M_itemOf_29 (by decide) (fun hc_29 => ?_) (fun hc_29 => ?_)
        · refine r_iload_n (i := 1) d_M_itemOf_36 rfl rfl ?_
          refine r_bipush d_M_itemOf_37 bp_116 ?_
          refine r_icmp_ne (tgt := 46) d_M_itemOf_39 (by decide) (fun hc_39 => ?_) (fun hc_39 => ?_)
          · refine r_iconst d_M_itemOf_46 ic_m1 ?_
            exact J9 _ (((if_neg hc_9).trans ((if_neg hc_19).trans ((if_neg hc_29).trans ((if_neg hc_39).trans rfl))))).symm
          · refine r_iconst d_M_itemOf_42 ic_3 ?_
            refine r_goto (tgt := 47) d_M_itemOf_43 (by decide) ?_
            exact J9 _ (((if_neg hc_9).trans ((if_neg hc_19).trans ((if_neg hc_29).trans ((if_pos hc_39).trans rfl))))).symm
        · refine r_iconst d_M_itemOf_32 ic_2 ?_
          refine r_goto (tgt := 47) d_M_itemOf_33 (by decide) ?_
          exact J9 _ (((if_neg hc_9).trans ((if_neg hc_19).trans ((if_pos hc_29).trans rfl)))).symm
      · refine r_iconst d_M_itemOf_22 ic_1 ?_
        refine r_goto (tgt := 47) d_M_itemOf_23 (by decide) ?_
        exact J9 _ (((if_neg hc_9).trans ((if_pos hc_19).trans rfl))).symm
    · refine r_iconst d_M_itemOf_12 ic_0 ?_
      refine r_goto (tgt := 47) d_M_itemOf_13 (by decide) ?_
      exact J9 _ (((if_pos hc_9).trans rfl)).symm
def f_M_itemOf (a1 : Int32) (a2 : Int32) : Int32 := (if a1 = 114 then ((if a2 = 119 then 0 else ((if a2 = 104 then 1 else ((if a2 = 103 then 2 else ((if a2 = 116 then 3 else (-1)) : Int32)) : Int32)) : Int32)) : Int32) else ((if a2 = 120 then 0 else ((if a2 = 121 then 1 else ((if a2 = 97 then 2 else (-1)) : Int32)) : Int32)) : Int32))
theorem s_M_itemOf {Ω : rx_Om} {G : rx_Gh} {hp : rx_Hp} {F : Int32 → rx_Hp → Prop} (a1 : Int32) (a2 : Int32) (H0 : F (f_M_itemOf a1 a2) hp) : Ev Ω G 1 q_M_itemOf [.int a1, .int a2] hp (rI F) := by
  have H : ∀ v h, v = (f_M_itemOf a1 a2) → h = hp → F v h := by rintro _ _ rfl rfl; exact H0
  refine w_M_itemOf a1 a2  ?_
  refine ⟨fun hc_3 => ?_, fun hc_3 => ?_⟩
  · exact H _ _ (((if_pos hc_3).trans rfl)).symm (rfl).symm
  · exact H _ _ (((if_neg hc_3).trans rfl)).symm (rfl).symm
set_option maxHeartbeats 4000000 in
set_option maxRecDepth 20000 in
theorem w_M_highest {Ω : rx_Om} {G : rx_Gh} {hp : rx_Hp} {F : Int32 → rx_Hp → Prop} (a1 : Int32) (a2 : Int32) (H : (a1 = 114 → F ((if 2 ≤ a2 then ((if a2 = 2 then 15 else 99) : Int32) else 20) : Int32) hp) ∧ (¬ a1 = 114 → F ((if 2 ≤ a2 then 1 else 20) : Int32) hp)) : Ev Ω G 1 q_M_highest [.int a1, .int a2] hp (rI F) := by
  refine ev_of rfl (Nat.le_of_ble_eq_true rfl) rfl ?_
  show Rn Ω G 1 q_M_highest 0 [some (.int a1), some (.int a2)] [] hp (rI F)
  refine r_iload_n (i := 0) d_M_highest_0 rfl rfl ?_
  refine r_bipush d_M_highest_1 bp_114 ?_
  refine r_icmp_ne (tgt := 29) d_M_highest_3 (by decide) (fun hc_3 => ?_) (fun hc_3 => ?_)
  · replace H := H.2 hc_3
    have J31 : ∀ (v31_0 : Int32), v31_0 = ((if 2 ≤ a2 then 1 else 20) : Int32) → Rn Ω G 1 q_M_highest 40 [some (.int a1), some (.int a2)] [.int v31_0] hp (rI F) := by
      rintro _ rfl
      exact rI_ret d_M_highest_40 rfl H
    refine r_iload_n (i := 1) d_M_highest_29 rfl rfl ?_
    refine r_iconst d_M_highest_30 ic_2 ?_
    refine r_icmp_ge (tgt := 39) d_M_highest_31 (by decide) (fun hc_31 => ?_) (fun hc_31 => ?_)
    · refine r_iconst d_M_highest_39 ic_1 ?_
      exact J31 _ (((if_pos hc_31).trans rfl)).symm
    · refine r_bipush d_M_highest_34 bp_20 ?_
      refine r_goto (tgt := 40) d_M_highest_36 (by decide) ?_
      exact J31 _ (((if_neg hc_31).trans rfl)).symm
  · replace H := H.1 hc_3
    have J8 : ∀ (v8_0 : Int32), v8_0 = ((if 2 ≤ a2 then ((if a2 = 2 then 15 else 99) : Int32) else 20) : Int32) → Rn Ω G 1 q_M_highest 28 [some (.int a1), some (.int a2)] [.int v8_0] hp (rI F) := by
      rintro _ rfl
      exact rI_ret d_M_highest_28 rfl H
    refine r_iload_n (i := 1) d_M_highest_6 rfl rfl ?_
    refine r_iconst d_M_highest_7 ic_2 ?_
    refine r_icmp_ge (tgt := 16) d_M_highest_8 (by decide) (fun hc_8 => ?_) (fun hc_8 => ?_)
    · refine r_iload_n (i := 1) d_M_highest_16 rfl rfl ?_
      refine r_iconst d_M_highest_17 ic_2 ?_
      refine r_icmp_ne (tgt := 26) d_M_highest_18 (by decide) (fun hc_18 => ?_) (fun hc_18 => ?_)
      · refine r_bipush d_M_highest_26 bp_99 ?_
        exact J8 _ (((if_pos hc_8).trans ((if_neg hc_18).trans rfl))).symm
      · refine r_bipush d_M_highest_21 bp_15 ?_
        refine r_goto (tgt := 28) d_M_highest_23 (by decide) ?_
        exact J8 _ (((if_pos hc_8).trans ((if_pos hc_18).trans rfl))).symm
    · refine r_bipush d_M_highest_11 bp_20 ?_
      refine r_goto (tgt := 28) d_M_highest_13 (by decide) ?_
      exact J8 _ (((if_neg hc_8).trans rfl)).symm
def f_M_highest (a1 : Int32) (a2 : Int32) : Int32 := (if a1 = 114 then ((if 2 ≤ a2 then ((if a2 = 2 then 15 else 99) : Int32) else 20) : Int32) else ((if 2 ≤ a2 then 1 else 20) : Int32))
theorem s_M_highest {Ω : rx_Om} {G : rx_Gh} {hp : rx_Hp} {F : Int32 → rx_Hp → Prop} (a1 : Int32) (a2 : Int32) (H0 : F (f_M_highest a1 a2) hp) : Ev Ω G 1 q_M_highest [.int a1, .int a2] hp (rI F) := by
  have H : ∀ v h, v = (f_M_highest a1 a2) → h = hp → F v h := by rintro _ _ rfl rfl; exact H0
  refine w_M_highest a1 a2  ?_
  refine ⟨fun hc_3 => ?_, fun hc_3 => ?_⟩
  · exact H _ _ (((if_pos hc_3).trans rfl)).symm (rfl).symm
  · exact H _ _ (((if_neg hc_3).trans rfl)).symm (rfl).symm
set_option maxHeartbeats 4000000 in
set_option maxRecDepth 20000 in
theorem w_M_usual {Ω : rx_Om} {G : rx_Gh} {hp : rx_Hp} {F : Int32 → rx_Hp → Prop} (a1 : Int32) (a2 : Int32) (H : (a1 = 114 → F ((if a2 = 0 then 10 else ((if a2 = 1 then 8 else ((if a2 = 2 then 15 else 10) : Int32)) : Int32)) : Int32) hp) ∧ (¬ a1 = 114 → F 1 hp)) : Ev Ω G 1 q_M_usual [.int a1, .int a2] hp (rI F) := by
  refine ev_of rfl (Nat.le_of_ble_eq_true rfl) rfl ?_
  show Rn Ω G 1 q_M_usual 0 [some (.int a1), some (.int a2)] [] hp (rI F)
  refine r_iload_n (i := 0) d_M_usual_0 rfl rfl ?_
  refine r_bipush d_M_usual_1 bp_114 ?_
  refine r_icmp_ne (tgt := 38) d_M_usual_3 (by decide) (fun hc_3 => ?_) (fun hc_3 => ?_)
  · replace H := H.2 hc_3
    refine r_iconst d_M_usual_38 ic_1 ?_
    exact rI_ret d_M_usual_39 rfl H
  · replace H := H.1 hc_3
    have J7 : ∀ (v7_0 : Int32), v7_0 = ((if a2 = 0 then 10 else ((if a2 = 1 then 8 else ((if a2 = 2 then 15 else 10) : Int32)) : Int32)) : Int32) → Rn Ω G 1 q_M_usual 37 [some (.int a1), some (.int a2)] [.int v7_0] hp (rI F) := by
      rintro _ rfl
      exact rI_ret d_M_usual_37 rfl H
    refine r_iload_n (i := 1) d_M_usual_6 rfl rfl ?_
    refine r_if_ne (tgt := 15) d_M_usual_7 (by decide) (fun hc_7 => ?_) (fun hc_7 => ?_)
    · refine r_iload_n (i := 1) d_M_usual_15 rfl rfl ?_
      refine r_iconst d_M_usual_16 ic_1 ?_
      refine r_icmp_ne (tgt := 25) d_M_usual_17 (by decide) (fun hc_17 => ?_) (fun hc_17 => ?_)
      · refine r_iload_n (i := 1) d_M_usual_25 rfl rfl ?_
        refine r_iconst d_M_usual_26 ic_2 ?_
        refine r_icmp_ne (tgt := 35) d_M_usual_27 (by decide) (fun hc_27 => ?_) (fun hc_27 => ?_)
        · refine r_bipush d_M_usual_35 bp_10 ?_
          exact J7 _ (((if_neg hc_7).trans ((if_neg hc_17).trans ((if_neg hc_27).trans rfl)))).symm
        · refine r_bipush d_M_usual_30 bp_15 ?_
          refine r_goto (tgt := 37) d_M_usual_32 (by decide) ?_
          exact J7 _ (((if_neg hc_7).trans ((if_neg hc_17).trans ((if_pos hc_27).trans rfl)))).symm
      · refine r_bipush d_M_usual_20 bp_8 ?_
        refine r_goto (tgt := 37) d_M_usual_22 (by decide) ?_
        exact J7 _ (((if_neg hc_7).trans ((if_pos hc_17).trans rfl))).symm
    · refine r_bipush d_M_usual_10 bp_10 ?_
      refine r_goto (tgt := 37) d_M_usual_12 (by decide) ?_
      exact J7 _ (((if_pos hc_7).trans rfl)).symm
def f_M_usual (a1 : Int32) (a2 : Int32) : Int32 := (if a1 = 114 then ((if a2 = 0 then 10 else ((if a2 = 1 then 8 else ((if a2 = 2 then 15 else 10) : Int32)) : Int32)) : Int32) else 1)
theorem s_M_usual {Ω : rx_Om} {G : rx_Gh} {hp : rx_Hp} {F : Int32 → rx_Hp → Prop} (a1 : Int32) (a2 : Int32) (H0 : F (f_M_usual a1 a2) hp) : Ev Ω G 1 q_M_usual [.int a1, .int a2] hp (rI F) := by
  have H : ∀ v h, v = (f_M_usual a1 a2) → h = hp → F v h := by rintro _ _ rfl rfl; exact H0
  refine w_M_usual a1 a2  ?_
  refine ⟨fun hc_3 => ?_, fun hc_3 => ?_⟩
  · exact H _ _ (((if_pos hc_3).trans rfl)).symm (rfl).symm
  · exact H _ _ (((if_neg hc_3).trans rfl)).symm (rfl).symm
set_option maxHeartbeats 4000000 in
set_option maxRecDepth 20000 in
theorem w_M_isBody {G : rx_Gh} {hp : rx_Hp} {F : Int32 → rx_Hp → Prop} (a1 : Int32) (H : F (f_M_in a1 0 ((hp.1 0 23) - 1)) hp) : Ev wM G 2 q_M_isBody [.ref 0, .int a1] hp (rI F) := by
  refine ev_of rfl (Nat.le_of_ble_eq_true rfl) rfl ?_
  show Rn wM G 2 q_M_isBody 0 [some (.ref 0), some (.int a1)] [] hp (rI F)
  refine r_iload_n (i := 1) d_M_isBody_0 rfl rfl ?_
  refine r_iconst d_M_isBody_1 ic_0 ?_
  refine r_aload_n (i := 0) d_M_isBody_2 rfl rfl ?_
  refine r_getI (b := 0) (v := hp.1 0 23) d_M_isBody_3 fl_M_236 (by decide) rfl rfl rfl ?_
  refine r_iconst d_M_isBody_6 ic_1 ?_
  refine r_isub d_M_isBody_7 ?_
  refine rk_SI (d' := 1) [.int a1, .int 0, .int ((hp.1 0 23) - 1)] [] d_M_isBody_8 ml_M_198 rfl rfl (by decide) (Nat.le_of_ble_eq_true rfl) (s_M_in a1 0 ((hp.1 0 23) - 1) ?_)
  exact rZ_ret d_M_isBody_11 rfl (b_M_in a1 0 ((hp.1 0 23) - 1)) H
def f_M_isBody (a1 : Int32) (hp : rx_Hp) : Int32 := (f_M_in a1 0 ((hp.1 0 23) - 1))
theorem s_M_isBody {G : rx_Gh} {hp : rx_Hp} {F : Int32 → rx_Hp → Prop} (a1 : Int32) (H0 : F (f_M_isBody a1 hp) hp) : Ev wM G 2 q_M_isBody [.ref 0, .int a1] hp (rI F) := by
  have H : ∀ v h, v = (f_M_isBody a1 hp) → h = hp → F v h := by rintro _ _ rfl rfl; exact H0
  refine w_M_isBody a1  ?_
  exact H _ _ (rfl).symm (rfl).symm
theorem b_M_isBody (a1 : Int32) (hp : rx_Hp) : (f_M_isBody a1 hp) = 0 ∨ (f_M_isBody a1 hp) = 1 := (b_M_in a1 0 ((hp.1 0 23) - 1))
set_option maxHeartbeats 4000000 in
set_option maxRecDepth 20000 in
theorem w_M_body {G : rx_Gh} {hp : rx_Hp} {F : Int32 → rx_Hp → Prop} (a1 : Int32) (a2 : Int32) (H : (((if (f_M_isBody a1 hp) = 0 then 1 else ((if (f_M_in a2 0 2) = 0 then 1 else 0) : Int32)) : Int32) = 1 → F 0 (rx_pf hp 0 0 ((if (f_M_isBody a1 hp) = 0 then 1 else ((if (f_M_in a2 0 2) = 0 then 1 else 0) : Int32)) : Int32))) ∧ (¬ ((if (f_M_isBody a1 hp) = 0 then 1 else ((if (f_M_in a2 0 2) = 0 then 1 else 0) : Int32)) : Int32) = 1 → (a2 = 0 → vp_in a1 6 ∧ (F (hp.2.1 13 a1.toNatClampNeg) (rx_pf hp 0 0 ((if (f_M_isBody a1 hp) = 0 then 1 else ((if (f_M_in a2 0 2) = 0 then 1 else 0) : Int32)) : Int32)))) ∧ (¬ a2 = 0 → (a2 = 1 → vp_in a1 6 ∧ (F (hp.2.1 14 a1.toNatClampNeg) (rx_pf hp 0 0 ((if (f_M_isBody a1 hp) = 0 then 1 else ((if (f_M_in a2 0 2) = 0 then 1 else 0) : Int32)) : Int32)))) ∧ (¬ a2 = 1 → vp_in a1 6 ∧ (F (hp.2.1 15 a1.toNatClampNeg) (rx_pf hp 0 0 ((if (f_M_isBody a1 hp) = 0 then 1 else ((if (f_M_in a2 0 2) = 0 then 1 else 0) : Int32)) : Int32))))))) : Ev wM G 3 q_M_body [.ref 0, .int a1, .int a2] hp (rI F) := by
  refine ev_of rfl (Nat.le_of_ble_eq_true rfl) rfl ?_
  show Rn wM G 3 q_M_body 0 [some (.ref 0), some (.int a1), some (.int a2)] [] hp (rI F)
  have J6 : ∀ (v6_0 : Int32), v6_0 = ((if (f_M_isBody a1 hp) = 0 then 1 else ((if (f_M_in a2 0 2) = 0 then 1 else 0) : Int32)) : Int32) → Rn wM G 3 q_M_body 23 [some (.ref 0), some (.int a1), some (.int a2)] [.int v6_0, .ref 0] hp (rI F) := by
    rintro _ rfl
    refine r_putI (b := 0) d_M_body_23 fp_M_83 ⟨rfl, rfl⟩ (by decide) rfl rfl ?_
    refine r_aload_n (i := 0) d_M_body_26 rfl rfl ?_
    refine r_getI (b := 0) (v := ((if (f_M_isBody a1 hp) = 0 then 1 else ((if (f_M_in a2 0 2) = 0 then 1 else 0) : Int32)) : Int32)) d_M_body_27 fl_M_83 (by decide) rfl rfl rfl ?_
    refine r_iconst d_M_body_30 ic_1 ?_
    refine r_icmp_ne (tgt := 38) d_M_body_31 (by decide) (fun hc_31 => ?_) (fun hc_31 => ?_)
    · replace H := H.2 hc_31
      refine r_iload_n (i := 2) d_M_body_38 rfl rfl ?_
      refine r_if_ne (tgt := 51) d_M_body_39 (by decide) (fun hc_39 => ?_) (fun hc_39 => ?_)
      · replace H := H.2 hc_39
        refine r_iload_n (i := 2) d_M_body_51 rfl rfl ?_
        refine r_iconst d_M_body_52 ic_1 ?_
        refine r_icmp_ne (tgt := 65) d_M_body_53 (by decide) (fun hc_53 => ?_) (fun hc_53 => ?_)
        · replace H := H.2 hc_53
          refine r_aload_n (i := 0) d_M_body_65 rfl rfl ?_
          refine r_getR (b := 0) (r := 15) d_M_body_66 fl_M_52 (by decide) rfl rfl rfl ?_
          refine r_iload_n (i := 1) d_M_body_69 rfl rfl ?_
          obtain ⟨hi_70, H⟩ := H
          refine r_iald (b := 15) (v := hp.2.1 15 a1.toNatClampNeg) d_M_body_70 (by decide) rfl hi_70 rfl ?_
          exact rI_ret d_M_body_71 rfl H
        · replace H := H.1 hc_53
          refine r_aload_n (i := 0) d_M_body_56 rfl rfl ?_
          refine r_getR (b := 0) (r := 14) d_M_body_57 fl_M_49 (by decide) rfl rfl rfl ?_
          refine r_iload_n (i := 1) d_M_body_60 rfl rfl ?_
          obtain ⟨hi_61, H⟩ := H
          refine r_iald (b := 14) (v := hp.2.1 14 a1.toNatClampNeg) d_M_body_61 (by decide) rfl hi_61 rfl ?_
          refine r_goto (tgt := 71) d_M_body_62 (by decide) ?_
          exact rI_ret d_M_body_71 rfl H
      · replace H := H.1 hc_39
        refine r_aload_n (i := 0) d_M_body_42 rfl rfl ?_
        refine r_getR (b := 0) (r := 13) d_M_body_43 fl_M_46 (by decide) rfl rfl rfl ?_
        refine r_iload_n (i := 1) d_M_body_46 rfl rfl ?_
        obtain ⟨hi_47, H⟩ := H
        refine r_iald (b := 13) (v := hp.2.1 13 a1.toNatClampNeg) d_M_body_47 (by decide) rfl hi_47 rfl ?_
        refine r_goto (tgt := 71) d_M_body_48 (by decide) ?_
        exact rI_ret d_M_body_71 rfl H
    · replace H := H.1 hc_31
      refine r_iconst d_M_body_34 ic_0 ?_
      refine r_goto (tgt := 71) d_M_body_35 (by decide) ?_
      exact rI_ret d_M_body_71 rfl H
  refine r_aload_n (i := 0) d_M_body_0 rfl rfl ?_
  refine r_aload_n (i := 0) d_M_body_1 rfl rfl ?_
  refine r_iload_n (i := 1) d_M_body_2 rfl rfl ?_
  refine rk_VI (b := 0) (d' := 2) [.int a1] [.ref 0] d_M_body_3 ml_M_267 rfl rfl (by decide) (by decide) rfl rfl (Nat.le_of_ble_eq_true rfl) (s_M_isBody a1 ?_)
  refine r_if_eq (tgt := 22) d_M_body_6 (by decide) (fun hc_6 => ?_) (fun hc_6 => ?_)
  · refine r_iconst d_M_body_22 ic_1 ?_
    exact J6 _ (((if_pos hc_6).trans rfl)).symm
  · refine r_iload_n (i := 2) d_M_body_9 rfl rfl ?_
    refine r_iconst d_M_body_10 ic_0 ?_
    refine r_iconst d_M_body_11 ic_2 ?_
    refine rk_SI (d' := 1) [.int a2, .int 0, .int 2] [.ref 0] d_M_body_12 ml_M_198 rfl rfl (by decide) (Nat.le_of_ble_eq_true rfl) (s_M_in a2 0 2 ?_)
    refine r_if_eq (tgt := 22) d_M_body_15 (by decide) (fun hc_15 => ?_) (fun hc_15 => ?_)
    · refine r_iconst d_M_body_22 ic_1 ?_
      exact J6 _ (((if_neg hc_6).trans ((if_pos hc_15).trans rfl))).symm
    · refine r_iconst d_M_body_18 ic_0 ?_
      refine r_goto (tgt := 23) d_M_body_19 (by decide) ?_
      exact J6 _ (((if_neg hc_6).trans ((if_neg hc_15).trans rfl))).symm
def f_M_body (a1 : Int32) (a2 : Int32) (hp : rx_Hp) : Int32 := (if ((if (f_M_isBody a1 hp) = 0 then 1 else ((if (f_M_in a2 0 2) = 0 then 1 else 0) : Int32)) : Int32) = 1 then 0 else (if a2 = 0 then (hp.2.1 13 a1.toNatClampNeg) else (if a2 = 1 then (hp.2.1 14 a1.toNatClampNeg) else (hp.2.1 15 a1.toNatClampNeg))))
def g_M_body (a1 : Int32) (a2 : Int32) (hp : rx_Hp) : rx_Hp := rx_pf hp 0 0 ((if (f_M_isBody a1 hp) = 0 then 1 else ((if (f_M_in a2 0 2) = 0 then 1 else 0) : Int32)) : Int32)
def p_M_body (a1 : Int32) (a2 : Int32) (hp : rx_Hp) : Prop := (¬ ((if (f_M_isBody a1 hp) = 0 then 1 else ((if (f_M_in a2 0 2) = 0 then 1 else 0) : Int32)) : Int32) = 1 → (a2 = 0 → vp_in a1 6) ∧ (¬ a2 = 0 → (a2 = 1 → vp_in a1 6) ∧ (¬ a2 = 1 → vp_in a1 6)))
theorem s_M_body {G : rx_Gh} {hp : rx_Hp} {F : Int32 → rx_Hp → Prop} (a1 : Int32) (a2 : Int32) (hP : (p_M_body a1 a2 hp)) (H0 : F (f_M_body a1 a2 hp) (g_M_body a1 a2 hp)) : Ev wM G 3 q_M_body [.ref 0, .int a1, .int a2] hp (rI F) := by
  have H : ∀ v h, v = (f_M_body a1 a2 hp) → h = (g_M_body a1 a2 hp) → F v h := by rintro _ _ rfl rfl; exact H0
  unfold p_M_body at hP
  refine w_M_body a1 a2  ?_
  refine ⟨fun hc_31 => ?_, fun hc_31 => ?_⟩
  · exact H _ _ (((if_pos hc_31).trans rfl)).symm (rfl).symm
  · refine ⟨fun hc_39 => ?_, fun hc_39 => ?_⟩
    · refine ⟨((hP hc_31).1 hc_39), ?_⟩
      exact H _ _ (((if_neg hc_31).trans ((if_pos hc_39).trans rfl))).symm (rfl).symm
    · refine ⟨fun hc_53 => ?_, fun hc_53 => ?_⟩
      · refine ⟨(((hP hc_31).2 hc_39).1 hc_53), ?_⟩
        exact H _ _ (((if_neg hc_31).trans ((if_neg hc_39).trans ((if_pos hc_53).trans rfl)))).symm (rfl).symm
      · refine ⟨(((hP hc_31).2 hc_39).2 hc_53), ?_⟩
        exact H _ _ (((if_neg hc_31).trans ((if_neg hc_39).trans ((if_neg hc_53).trans rfl)))).symm (rfl).symm
set_option maxHeartbeats 4000000 in
set_option maxRecDepth 20000 in
theorem w_M_light {G : rx_Gh} {hp : rx_Hp} {F : Int32 → rx_Hp → Prop} (a1 : Int32) (H : ((f_M_in a1 (-1) ((hp.1 0 13) - 1)) = 0 → F 0 hp) ∧ (¬ (f_M_in a1 (-1) ((hp.1 0 13) - 1)) = 0 → F 1 (rx_pf hp 0 28 a1))) : Ev wM G 2 q_M_light [.ref 0, .int a1] hp (rI F) := by
  refine ev_of rfl (Nat.le_of_ble_eq_true rfl) rfl ?_
  show Rn wM G 2 q_M_light 0 [some (.ref 0), some (.int a1)] [] hp (rI F)
  refine r_iload_n (i := 1) d_M_light_0 rfl rfl ?_
  refine r_iconst d_M_light_1 ic_m1 ?_
  refine r_aload_n (i := 0) d_M_light_2 rfl rfl ?_
  refine r_getI (b := 0) (v := hp.1 0 13) d_M_light_3 fl_M_264 (by decide) rfl rfl rfl ?_
  refine r_iconst d_M_light_6 ic_1 ?_
  refine r_isub d_M_light_7 ?_
  refine rk_SI (d' := 1) [.int a1, .int (-1), .int ((hp.1 0 13) - 1)] [] d_M_light_8 ml_M_198 rfl rfl (by decide) (Nat.le_of_ble_eq_true rfl) (s_M_in a1 (-1) ((hp.1 0 13) - 1) ?_)
  refine r_if_ne (tgt := 16) d_M_light_11 (by decide) (fun hc_11 => ?_) (fun hc_11 => ?_)
  · replace H := H.2 hc_11
    refine r_aload_n (i := 0) d_M_light_16 rfl rfl ?_
    refine r_iload_n (i := 1) d_M_light_17 rfl rfl ?_
    refine r_putI (b := 0) d_M_light_18 fp_M_55 ⟨rfl, rfl⟩ (by decide) rfl rfl ?_
    refine r_iconst d_M_light_21 ic_1 ?_
    exact rZ_ret d_M_light_22 rfl (Or.inr rfl) H
  · replace H := H.1 hc_11
    refine r_iconst d_M_light_14 ic_0 ?_
    exact rZ_ret d_M_light_15 rfl (Or.inl rfl) H
def f_M_light (a1 : Int32) (hp : rx_Hp) : Int32 := (if (f_M_in a1 (-1) ((hp.1 0 13) - 1)) = 0 then 0 else 1)
def g_M_light (a1 : Int32) (hp : rx_Hp) : rx_Hp := (if (f_M_in a1 (-1) ((hp.1 0 13) - 1)) = 0 then hp else (rx_pf hp 0 28 a1))
theorem s_M_light {G : rx_Gh} {hp : rx_Hp} {F : Int32 → rx_Hp → Prop} (a1 : Int32) (H0 : F (f_M_light a1 hp) (g_M_light a1 hp)) : Ev wM G 2 q_M_light [.ref 0, .int a1] hp (rI F) := by
  have H : ∀ v h, v = (f_M_light a1 hp) → h = (g_M_light a1 hp) → F v h := by rintro _ _ rfl rfl; exact H0
  refine w_M_light a1  ?_
  refine ⟨fun hc_11 => ?_, fun hc_11 => ?_⟩
  · exact H _ _ (((if_pos hc_11).trans rfl)).symm (((if_pos hc_11).trans rfl)).symm
  · exact H _ _ (((if_neg hc_11).trans rfl)).symm (((if_neg hc_11).trans rfl)).symm
theorem b_M_light (a1 : Int32) (hp : rx_Hp) : (f_M_light a1 hp) = 0 ∨ (f_M_light a1 hp) = 1 := (rb_ite (Or.inl rfl) (Or.inr rfl))
set_option maxHeartbeats 4000000 in
set_option maxRecDepth 20000 in
theorem w_M_isInside {G : rx_Gh} {hp : rx_Hp} {F : Int32 → rx_Hp → Prop} (a1 : Int32) (a2 : Int32) (H : F ((if (f_M_in a1 0 (hp.1 0 24)) = 0 then 0 else ((if (f_M_in a2 0 (hp.1 0 25)) = 0 then 0 else 1) : Int32)) : Int32) hp) : Ev wM G 2 q_M_isInside [.ref 0, .int a1, .int a2] hp (rI F) := by
  refine ev_of rfl (Nat.le_of_ble_eq_true rfl) rfl ?_
  show Rn wM G 2 q_M_isInside 0 [some (.ref 0), some (.int a1), some (.int a2)] [] hp (rI F)
  have J9 : ∀ (v9_0 : Int32), v9_0 = ((if (f_M_in a1 0 (hp.1 0 24)) = 0 then 0 else ((if (f_M_in a2 0 (hp.1 0 25)) = 0 then 0 else 1) : Int32)) : Int32) → Rn wM G 2 q_M_isInside 29 [some (.ref 0), some (.int a1), some (.int a2)] [.int v9_0] hp (rI F) := by
    rintro _ rfl
    exact rZ_ret d_M_isInside_29 rfl (rb_ite (Or.inl rfl) (rb_ite (Or.inl rfl) (Or.inr rfl))) H
  refine r_iload_n (i := 1) d_M_isInside_0 rfl rfl ?_
  refine r_iconst d_M_isInside_1 ic_0 ?_
  refine r_aload_n (i := 0) d_M_isInside_2 rfl rfl ?_
  refine r_getI (b := 0) (v := hp.1 0 24) d_M_isInside_3 fl_M_239 (by decide) rfl rfl rfl ?_
  refine rk_SI (d' := 1) [.int a1, .int 0, .int (hp.1 0 24)] [] d_M_isInside_6 ml_M_198 rfl rfl (by decide) (Nat.le_of_ble_eq_true rfl) (s_M_in a1 0 (hp.1 0 24) ?_)
  refine r_if_eq (tgt := 28) d_M_isInside_9 (by decide) (fun hc_9 => ?_) (fun hc_9 => ?_)
  · refine r_iconst d_M_isInside_28 ic_0 ?_
    exact J9 _ (((if_pos hc_9).trans rfl)).symm
  · refine r_iload_n (i := 2) d_M_isInside_12 rfl rfl ?_
    refine r_iconst d_M_isInside_13 ic_0 ?_
    refine r_aload_n (i := 0) d_M_isInside_14 rfl rfl ?_
    refine r_getI (b := 0) (v := hp.1 0 25) d_M_isInside_15 fl_M_242 (by decide) rfl rfl rfl ?_
    refine rk_SI (d' := 1) [.int a2, .int 0, .int (hp.1 0 25)] [] d_M_isInside_18 ml_M_198 rfl rfl (by decide) (Nat.le_of_ble_eq_true rfl) (s_M_in a2 0 (hp.1 0 25) ?_)
    refine r_if_eq (tgt := 28) d_M_isInside_21 (by decide) (fun hc_21 => ?_) (fun hc_21 => ?_)
    · refine r_iconst d_M_isInside_28 ic_0 ?_
      exact J9 _ (((if_neg hc_9).trans ((if_pos hc_21).trans rfl))).symm
    · refine r_iconst d_M_isInside_24 ic_1 ?_
      refine r_goto (tgt := 29) d_M_isInside_25 (by decide) ?_
      exact J9 _ (((if_neg hc_9).trans ((if_neg hc_21).trans rfl))).symm
def f_M_isInside (a1 : Int32) (a2 : Int32) (hp : rx_Hp) : Int32 := ((if (f_M_in a1 0 (hp.1 0 24)) = 0 then 0 else ((if (f_M_in a2 0 (hp.1 0 25)) = 0 then 0 else 1) : Int32)) : Int32)
theorem s_M_isInside {G : rx_Gh} {hp : rx_Hp} {F : Int32 → rx_Hp → Prop} (a1 : Int32) (a2 : Int32) (H0 : F (f_M_isInside a1 a2 hp) hp) : Ev wM G 2 q_M_isInside [.ref 0, .int a1, .int a2] hp (rI F) := by
  have H : ∀ v h, v = (f_M_isInside a1 a2 hp) → h = hp → F v h := by rintro _ _ rfl rfl; exact H0
  refine w_M_isInside a1 a2  ?_
  exact H _ _ (rfl).symm (rfl).symm
theorem b_M_isInside (a1 : Int32) (a2 : Int32) (hp : rx_Hp) : (f_M_isInside a1 a2 hp) = 0 ∨ (f_M_isInside a1 a2 hp) = 1 := (rb_ite (Or.inl rfl) (rb_ite (Or.inl rfl) (Or.inr rfl)))
set_option maxHeartbeats 4000000 in
set_option maxRecDepth 20000 in
theorem w_M_thrownTo {Ω : rx_Om} {G : rx_Gh} {hp : rx_Hp} {F : Int32 → rx_Hp → Prop} (a1 : Int32) (a2 : Int32) (a3 : Int32) (H : F ((a1 * a2) + ((if (a1 - a1 / 2 * 2) = 0 then a3 else (a2 - a3)) : Int32)) hp) : Ev Ω G 1 q_M_thrownTo [.int a1, .int a2, .int a3] hp (rI F) := by
  refine ev_of rfl (Nat.le_of_ble_eq_true rfl) rfl ?_
  show Rn Ω G 1 q_M_thrownTo 0 [some (.int a1), some (.int a2), some (.int a3)] [] hp (rI F)
  have J6 : ∀ (v6_0 : Int32), v6_0 = ((if (a1 - a1 / 2 * 2) = 0 then a3 else (a2 - a3)) : Int32) → Rn Ω G 1 q_M_thrownTo 16 [some (.int a1), some (.int a2), some (.int a3)] [.int v6_0, .int (a1 * a2)] hp (rI F) := by
    rintro _ rfl
    refine r_iadd d_M_thrownTo_16 ?_
    exact rI_ret d_M_thrownTo_17 rfl H
  refine r_iload_n (i := 0) d_M_thrownTo_0 rfl rfl ?_
  refine r_iload_n (i := 1) d_M_thrownTo_1 rfl rfl ?_
  refine r_imul d_M_thrownTo_2 ?_
  refine r_iload_n (i := 0) d_M_thrownTo_3 rfl rfl ?_
  refine r_iconst d_M_thrownTo_4 ic_2 ?_
  refine r_irem d_M_thrownTo_5 (by decide) ?_
  refine r_if_ne (tgt := 13) d_M_thrownTo_6 (by decide) (fun hc_6 => ?_) (fun hc_6 => ?_)
  · refine r_iload_n (i := 1) d_M_thrownTo_13 rfl rfl ?_
    refine r_iload_n (i := 2) d_M_thrownTo_14 rfl rfl ?_
    refine r_isub d_M_thrownTo_15 ?_
    exact J6 _ (((if_neg hc_6).trans rfl)).symm
  · refine r_iload_n (i := 2) d_M_thrownTo_9 rfl rfl ?_
    refine r_goto (tgt := 16) d_M_thrownTo_10 (by decide) ?_
    exact J6 _ (((if_pos hc_6).trans rfl)).symm
def f_M_thrownTo (a1 : Int32) (a2 : Int32) (a3 : Int32) : Int32 := (a1 * a2) + ((if (a1 - a1 / 2 * 2) = 0 then a3 else (a2 - a3)) : Int32)
theorem s_M_thrownTo {Ω : rx_Om} {G : rx_Gh} {hp : rx_Hp} {F : Int32 → rx_Hp → Prop} (a1 : Int32) (a2 : Int32) (a3 : Int32) (H0 : F (f_M_thrownTo a1 a2 a3) hp) : Ev Ω G 1 q_M_thrownTo [.int a1, .int a2, .int a3] hp (rI F) := by
  have H : ∀ v h, v = (f_M_thrownTo a1 a2 a3) → h = hp → F v h := by rintro _ _ rfl rfl; exact H0
  refine w_M_thrownTo a1 a2 a3  ?_
  exact H _ _ (rfl).symm (rfl).symm
set_option maxHeartbeats 4000000 in
set_option maxRecDepth 20000 in
theorem w_M_imageX {G : rx_Gh} {hp : rx_Hp} {F : Int32 → rx_Hp → Prop} (a1 : Int32) (a2 : Int32) (H : vp_in a1 6 ∧ (F (f_M_thrownTo a2 (hp.1 0 24) (hp.2.1 13 a1.toNatClampNeg)) hp)) : Ev wM G 2 q_M_imageX [.ref 0, .int a1, .int a2] hp (rI F) := by
  refine ev_of rfl (Nat.le_of_ble_eq_true rfl) rfl ?_
  show Rn wM G 2 q_M_imageX 0 [some (.ref 0), some (.int a1), some (.int a2)] [] hp (rI F)
  refine r_iload_n (i := 2) d_M_imageX_0 rfl rfl ?_
  refine r_aload_n (i := 0) d_M_imageX_1 rfl rfl ?_
  refine r_getI (b := 0) (v := hp.1 0 24) d_M_imageX_2 fl_M_239 (by decide) rfl rfl rfl ?_
  refine r_aload_n (i := 0) d_M_imageX_5 rfl rfl ?_
  refine r_getR (b := 0) (r := 13) d_M_imageX_6 fl_M_46 (by decide) rfl rfl rfl ?_
  refine r_iload_n (i := 1) d_M_imageX_9 rfl rfl ?_
  obtain ⟨hi_10, H⟩ := H
  refine r_iald (b := 13) (v := hp.2.1 13 a1.toNatClampNeg) d_M_imageX_10 (by decide) rfl hi_10 rfl ?_
  refine rk_SI (d' := 1) [.int a2, .int (hp.1 0 24), .int (hp.2.1 13 a1.toNatClampNeg)] [] d_M_imageX_11 ml_M_289 rfl rfl (by decide) (Nat.le_of_ble_eq_true rfl) (s_M_thrownTo a2 (hp.1 0 24) (hp.2.1 13 a1.toNatClampNeg) ?_)
  exact rI_ret d_M_imageX_14 rfl H
def f_M_imageX (a1 : Int32) (a2 : Int32) (hp : rx_Hp) : Int32 := (f_M_thrownTo a2 (hp.1 0 24) (hp.2.1 13 a1.toNatClampNeg))
def p_M_imageX (a1 : Int32) (a2 : Int32) : Prop := vp_in a1 6
theorem s_M_imageX {G : rx_Gh} {hp : rx_Hp} {F : Int32 → rx_Hp → Prop} (a1 : Int32) (a2 : Int32) (hP : (p_M_imageX a1 a2)) (H0 : F (f_M_imageX a1 a2 hp) hp) : Ev wM G 2 q_M_imageX [.ref 0, .int a1, .int a2] hp (rI F) := by
  have H : ∀ v h, v = (f_M_imageX a1 a2 hp) → h = hp → F v h := by rintro _ _ rfl rfl; exact H0
  unfold p_M_imageX at hP
  refine w_M_imageX a1 a2  ?_
  refine ⟨hP, ?_⟩
  exact H _ _ (rfl).symm (rfl).symm
set_option maxHeartbeats 4000000 in
set_option maxRecDepth 20000 in
theorem w_M_imageY {G : rx_Gh} {hp : rx_Hp} {F : Int32 → rx_Hp → Prop} (a1 : Int32) (a2 : Int32) (H : vp_in a1 6 ∧ (F (f_M_thrownTo a2 (hp.1 0 25) (hp.2.1 14 a1.toNatClampNeg)) hp)) : Ev wM G 2 q_M_imageY [.ref 0, .int a1, .int a2] hp (rI F) := by
  refine ev_of rfl (Nat.le_of_ble_eq_true rfl) rfl ?_
  show Rn wM G 2 q_M_imageY 0 [some (.ref 0), some (.int a1), some (.int a2)] [] hp (rI F)
  refine r_iload_n (i := 2) d_M_imageY_0 rfl rfl ?_
  refine r_aload_n (i := 0) d_M_imageY_1 rfl rfl ?_
  refine r_getI (b := 0) (v := hp.1 0 25) d_M_imageY_2 fl_M_242 (by decide) rfl rfl rfl ?_
  refine r_aload_n (i := 0) d_M_imageY_5 rfl rfl ?_
  refine r_getR (b := 0) (r := 14) d_M_imageY_6 fl_M_49 (by decide) rfl rfl rfl ?_
  refine r_iload_n (i := 1) d_M_imageY_9 rfl rfl ?_
  obtain ⟨hi_10, H⟩ := H
  refine r_iald (b := 14) (v := hp.2.1 14 a1.toNatClampNeg) d_M_imageY_10 (by decide) rfl hi_10 rfl ?_
  refine rk_SI (d' := 1) [.int a2, .int (hp.1 0 25), .int (hp.2.1 14 a1.toNatClampNeg)] [] d_M_imageY_11 ml_M_289 rfl rfl (by decide) (Nat.le_of_ble_eq_true rfl) (s_M_thrownTo a2 (hp.1 0 25) (hp.2.1 14 a1.toNatClampNeg) ?_)
  exact rI_ret d_M_imageY_14 rfl H
def f_M_imageY (a1 : Int32) (a2 : Int32) (hp : rx_Hp) : Int32 := (f_M_thrownTo a2 (hp.1 0 25) (hp.2.1 14 a1.toNatClampNeg))
def p_M_imageY (a1 : Int32) (a2 : Int32) : Prop := vp_in a1 6
theorem s_M_imageY {G : rx_Gh} {hp : rx_Hp} {F : Int32 → rx_Hp → Prop} (a1 : Int32) (a2 : Int32) (hP : (p_M_imageY a1 a2)) (H0 : F (f_M_imageY a1 a2 hp) hp) : Ev wM G 2 q_M_imageY [.ref 0, .int a1, .int a2] hp (rI F) := by
  have H : ∀ v h, v = (f_M_imageY a1 a2 hp) → h = hp → F v h := by rintro _ _ rfl rfl; exact H0
  unfold p_M_imageY at hP
  refine w_M_imageY a1 a2  ?_
  refine ⟨hP, ?_⟩
  exact H _ _ (rfl).symm (rfl).symm
set_option maxHeartbeats 4000000 in
set_option maxRecDepth 20000 in
theorem w_M_canBe {G : rx_Gh} {hp : rx_Hp} {F : Int32 → rx_Hp → Prop} (a1 : Int32) (a2 : Int32) (a3 : Int32) (H : F ((if a1 = 0 then 1 else ((if (f_M_has (hp.1 0 26) a2) = 0 then ((if a1 = 1 then ((if (f_M_has (hp.1 0 26) a3) = 0 then 0 else 1) : Int32) else 0) : Int32) else ((if (f_M_has (hp.1 0 26) a3) = 0 then ((if a1 = (-1) then 1 else 0) : Int32) else 1) : Int32)) : Int32)) : Int32) hp) : Ev wM G 2 q_M_canBe [.ref 0, .int a1, .int a2, .int a3] hp (rI F) := by
  refine ev_of rfl (Nat.le_of_ble_eq_true rfl) rfl ?_
  show Rn wM G 2 q_M_canBe 0 [some (.ref 0), some (.int a1), some (.int a2), some (.int a3)] [] hp (rI F)
  have J1 : ∀ (v1_0 : Int32), v1_0 = ((if a1 = 0 then 1 else ((if (f_M_has (hp.1 0 26) a2) = 0 then ((if a1 = 1 then ((if (f_M_has (hp.1 0 26) a3) = 0 then 0 else 1) : Int32) else 0) : Int32) else ((if (f_M_has (hp.1 0 26) a3) = 0 then ((if a1 = (-1) then 1 else 0) : Int32) else 1) : Int32)) : Int32)) : Int32) → Rn wM G 2 q_M_canBe 66 [some (.ref 0), some (.int a1), some (.int a2), some (.int a3)] [.int v1_0] hp (rI F) := by
    rintro _ rfl
    exact rZ_ret d_M_canBe_66 rfl (rb_ite (Or.inr rfl) (rb_ite (rb_ite (rb_ite (Or.inl rfl) (Or.inr rfl)) (Or.inl rfl)) (rb_ite (rb_ite (Or.inr rfl) (Or.inl rfl)) (Or.inr rfl)))) H
  refine r_iload_n (i := 1) d_M_canBe_0 rfl rfl ?_
  refine r_if_eq (tgt := 61) d_M_canBe_1 (by decide) (fun hc_1 => ?_) (fun hc_1 => ?_)
  · refine r_iconst d_M_canBe_61 ic_1 ?_
    refine r_goto (tgt := 66) d_M_canBe_62 (by decide) ?_
    exact J1 _ (((if_pos hc_1).trans rfl)).symm
  · refine r_aload_n (i := 0) d_M_canBe_4 rfl rfl ?_
    refine r_getI (b := 0) (v := hp.1 0 26) d_M_canBe_5 fl_M_245 (by decide) rfl rfl rfl ?_
    refine r_iload_n (i := 2) d_M_canBe_8 rfl rfl ?_
    refine rk_SI (d' := 1) [.int (hp.1 0 26), .int a2] [] d_M_canBe_9 ml_M_209 rfl rfl (by decide) (Nat.le_of_ble_eq_true rfl) (s_M_has (hp.1 0 26) a2 ?_)
    refine r_if_eq (tgt := 29) d_M_canBe_12 (by decide) (fun hc_12 => ?_) (fun hc_12 => ?_)
    · refine r_iload_n (i := 1) d_M_canBe_29 rfl rfl ?_
      refine r_iconst d_M_canBe_30 ic_m1 ?_
      refine r_icmp_ne (tgt := 45) d_M_canBe_31 (by decide) (fun hc_31 => ?_) (fun hc_31 => ?_)
      · refine r_iload_n (i := 1) d_M_canBe_45 rfl rfl ?_
        refine r_iconst d_M_canBe_46 ic_1 ?_
        refine r_icmp_ne (tgt := 65) d_M_canBe_47 (by decide) (fun hc_47 => ?_) (fun hc_47 => ?_)
        · refine r_iconst d_M_canBe_65 ic_0 ?_
          exact J1 _ (((if_neg hc_1).trans ((if_pos hc_12).trans ((if_neg hc_47).trans rfl)))).symm
        · refine r_aload_n (i := 0) d_M_canBe_50 rfl rfl ?_
          refine r_getI (b := 0) (v := hp.1 0 26) d_M_canBe_51 fl_M_245 (by decide) rfl rfl rfl ?_
          refine r_iload_n (i := 3) d_M_canBe_54 rfl rfl ?_
          refine rk_SI (d' := 1) [.int (hp.1 0 26), .int a3] [] d_M_canBe_55 ml_M_209 rfl rfl (by decide) (Nat.le_of_ble_eq_true rfl) (s_M_has (hp.1 0 26) a3 ?_)
          refine r_if_eq (tgt := 65) d_M_canBe_58 (by decide) (fun hc_58 => ?_) (fun hc_58 => ?_)
          · refine r_iconst d_M_canBe_65 ic_0 ?_
            exact J1 _ (((if_neg hc_1).trans ((if_pos hc_12).trans ((if_pos hc_47).trans ((if_pos hc_58).trans rfl))))).symm
          · refine r_iconst d_M_canBe_61 ic_1 ?_
            refine r_goto (tgt := 66) d_M_canBe_62 (by decide) ?_
            exact J1 _ (((if_neg hc_1).trans ((if_pos hc_12).trans ((if_pos hc_47).trans ((if_neg hc_58).trans rfl))))).symm
      · refine r_aload_n (i := 0) d_M_canBe_34 rfl rfl ?_
        refine r_getI (b := 0) (v := hp.1 0 26) d_M_canBe_35 fl_M_245 (by decide) rfl rfl rfl ?_
        refine r_iload_n (i := 2) d_M_canBe_38 rfl rfl ?_
        refine rk_SI (d' := 1) [.int (hp.1 0 26), .int a2] [] d_M_canBe_39 ml_M_209 rfl rfl (by decide) (Nat.le_of_ble_eq_true rfl) (s_M_has (hp.1 0 26) a2 ?_)
        refine r_if_ne (tgt := 61) d_M_canBe_42 (by decide) (fun h => absurd hc_12 h) (fun _ => ?_)
        refine r_iload_n (i := 1) d_M_canBe_45 rfl rfl ?_
        refine r_iconst d_M_canBe_46 ic_1 ?_
        refine r_icmp_ne (tgt := 65) d_M_canBe_47 (by decide) (fun hc_47 => ?_) (fun hc_47 => ?_)
        · refine r_iconst d_M_canBe_65 ic_0 ?_
          exact J1 _ (((if_neg hc_1).trans ((if_pos hc_12).trans ((if_neg hc_47).trans rfl)))).symm
        · refine r_aload_n (i := 0) d_M_canBe_50 rfl rfl ?_
          refine r_getI (b := 0) (v := hp.1 0 26) d_M_canBe_51 fl_M_245 (by decide) rfl rfl rfl ?_
          refine r_iload_n (i := 3) d_M_canBe_54 rfl rfl ?_
          refine rk_SI (d' := 1) [.int (hp.1 0 26), .int a3] [] d_M_canBe_55 ml_M_209 rfl rfl (by decide) (Nat.le_of_ble_eq_true rfl) (s_M_has (hp.1 0 26) a3 ?_)
          refine r_if_eq (tgt := 65) d_M_canBe_58 (by decide) (fun hc_58 => ?_) (fun hc_58 => ?_)
          · refine r_iconst d_M_canBe_65 ic_0 ?_
            exact J1 _ (((if_neg hc_1).trans ((if_pos hc_12).trans ((if_pos hc_47).trans ((if_pos hc_58).trans rfl))))).symm
          · refine r_iconst d_M_canBe_61 ic_1 ?_
            refine r_goto (tgt := 66) d_M_canBe_62 (by decide) ?_
            exact J1 _ (((if_neg hc_1).trans ((if_pos hc_12).trans ((if_pos hc_47).trans ((if_neg hc_58).trans rfl))))).symm
    · refine r_aload_n (i := 0) d_M_canBe_15 rfl rfl ?_
      refine r_getI (b := 0) (v := hp.1 0 26) d_M_canBe_16 fl_M_245 (by decide) rfl rfl rfl ?_
      refine r_iload_n (i := 3) d_M_canBe_19 rfl rfl ?_
      refine rk_SI (d' := 1) [.int (hp.1 0 26), .int a3] [] d_M_canBe_20 ml_M_209 rfl rfl (by decide) (Nat.le_of_ble_eq_true rfl) (s_M_has (hp.1 0 26) a3 ?_)
      refine r_if_eq (tgt := 29) d_M_canBe_23 (by decide) (fun hc_23 => ?_) (fun hc_23 => ?_)
      · refine r_iload_n (i := 1) d_M_canBe_29 rfl rfl ?_
        refine r_iconst d_M_canBe_30 ic_m1 ?_
        refine r_icmp_ne (tgt := 45) d_M_canBe_31 (by decide) (fun hc_31 => ?_) (fun hc_31 => ?_)
        · refine r_iload_n (i := 1) d_M_canBe_45 rfl rfl ?_
          refine r_iconst d_M_canBe_46 ic_1 ?_
          refine r_icmp_ne (tgt := 65) d_M_canBe_47 (by decide) (fun hc_47 => ?_) (fun hc_47 => ?_)
          · refine r_iconst d_M_canBe_65 ic_0 ?_
            exact J1 _ (((if_neg hc_1).trans ((if_neg hc_12).trans ((if_pos hc_23).trans ((if_neg hc_31).trans rfl))))).symm
          · refine r_aload_n (i := 0) d_M_canBe_50 rfl rfl ?_
            refine r_getI (b := 0) (v := hp.1 0 26) d_M_canBe_51 fl_M_245 (by decide) rfl rfl rfl ?_
            refine r_iload_n (i := 3) d_M_canBe_54 rfl rfl ?_
            refine rk_SI (d' := 1) [.int (hp.1 0 26), .int a3] [] d_M_canBe_55 ml_M_209 rfl rfl (by decide) (Nat.le_of_ble_eq_true rfl) (s_M_has (hp.1 0 26) a3 ?_)
            refine r_if_eq (tgt := 65) d_M_canBe_58 (by decide) (fun _ => ?_) (fun h => absurd hc_23 h)
            refine r_iconst d_M_canBe_65 ic_0 ?_
            exact J1 _ (((if_neg hc_1).trans ((if_neg hc_12).trans ((if_pos hc_23).trans ((if_neg hc_31).trans rfl))))).symm
        · refine r_aload_n (i := 0) d_M_canBe_34 rfl rfl ?_
          refine r_getI (b := 0) (v := hp.1 0 26) d_M_canBe_35 fl_M_245 (by decide) rfl rfl rfl ?_
          refine r_iload_n (i := 2) d_M_canBe_38 rfl rfl ?_
          refine rk_SI (d' := 1) [.int (hp.1 0 26), .int a2] [] d_M_canBe_39 ml_M_209 rfl rfl (by decide) (Nat.le_of_ble_eq_true rfl) (s_M_has (hp.1 0 26) a2 ?_)
          refine r_if_ne (tgt := 61) d_M_canBe_42 (by decide) (fun _ => ?_) (fun h => absurd h hc_12)
          refine r_iconst d_M_canBe_61 ic_1 ?_
          refine r_goto (tgt := 66) d_M_canBe_62 (by decide) ?_
          exact J1 _ (((if_neg hc_1).trans ((if_neg hc_12).trans ((if_pos hc_23).trans ((if_pos hc_31).trans rfl))))).symm
      · refine r_goto (tgt := 61) d_M_canBe_26 (by decide) ?_
        refine r_iconst d_M_canBe_61 ic_1 ?_
        refine r_goto (tgt := 66) d_M_canBe_62 (by decide) ?_
        exact J1 _ (((if_neg hc_1).trans ((if_neg hc_12).trans ((if_neg hc_23).trans rfl)))).symm
def f_M_canBe (a1 : Int32) (a2 : Int32) (a3 : Int32) (hp : rx_Hp) : Int32 := ((if a1 = 0 then 1 else ((if (f_M_has (hp.1 0 26) a2) = 0 then ((if a1 = 1 then ((if (f_M_has (hp.1 0 26) a3) = 0 then 0 else 1) : Int32) else 0) : Int32) else ((if (f_M_has (hp.1 0 26) a3) = 0 then ((if a1 = (-1) then 1 else 0) : Int32) else 1) : Int32)) : Int32)) : Int32)
theorem s_M_canBe {G : rx_Gh} {hp : rx_Hp} {F : Int32 → rx_Hp → Prop} (a1 : Int32) (a2 : Int32) (a3 : Int32) (H0 : F (f_M_canBe a1 a2 a3 hp) hp) : Ev wM G 2 q_M_canBe [.ref 0, .int a1, .int a2, .int a3] hp (rI F) := by
  have H : ∀ v h, v = (f_M_canBe a1 a2 a3 hp) → h = hp → F v h := by rintro _ _ rfl rfl; exact H0
  refine w_M_canBe a1 a2 a3  ?_
  exact H _ _ (rfl).symm (rfl).symm
theorem b_M_canBe (a1 : Int32) (a2 : Int32) (a3 : Int32) (hp : rx_Hp) : (f_M_canBe a1 a2 a3 hp) = 0 ∨ (f_M_canBe a1 a2 a3 hp) = 1 := (rb_ite (Or.inr rfl) (rb_ite (rb_ite (rb_ite (Or.inl rfl) (Or.inr rfl)) (Or.inl rfl)) (rb_ite (rb_ite (Or.inr rfl) (Or.inl rfl)) (Or.inr rfl))))
set_option maxHeartbeats 4000000 in
set_option maxRecDepth 20000 in
theorem w_M_isThere {G : rx_Gh} {hp : rx_Hp} {F : Int32 → rx_Hp → Prop} (a1 : Int32) (a2 : Int32) (H : F ((if (f_M_canBe a1 0 1 hp) = 0 then 0 else ((if (f_M_canBe a2 2 3 hp) = 0 then 0 else 1) : Int32)) : Int32) hp) : Ev wM G 3 q_M_isThere [.ref 0, .int a1, .int a2] hp (rI F) := by
  refine ev_of rfl (Nat.le_of_ble_eq_true rfl) rfl ?_
  show Rn wM G 3 q_M_isThere 0 [some (.ref 0), some (.int a1), some (.int a2)] [] hp (rI F)
  have J7 : ∀ (v7_0 : Int32), v7_0 = ((if (f_M_canBe a1 0 1 hp) = 0 then 0 else ((if (f_M_canBe a2 2 3 hp) = 0 then 0 else 1) : Int32)) : Int32) → Rn wM G 3 q_M_isThere 25 [some (.ref 0), some (.int a1), some (.int a2)] [.int v7_0] hp (rI F) := by
    rintro _ rfl
    exact rZ_ret d_M_isThere_25 rfl (rb_ite (Or.inl rfl) (rb_ite (Or.inl rfl) (Or.inr rfl))) H
  refine r_aload_n (i := 0) d_M_isThere_0 rfl rfl ?_
  refine r_iload_n (i := 1) d_M_isThere_1 rfl rfl ?_
  refine r_iconst d_M_isThere_2 ic_0 ?_
  refine r_iconst d_M_isThere_3 ic_1 ?_
  refine rk_VI (b := 0) (d' := 2) [.int a1, .int 0, .int 1] [] d_M_isThere_4 ml_M_292 rfl rfl (by decide) (by decide) rfl rfl (Nat.le_of_ble_eq_true rfl) (s_M_canBe a1 0 1 ?_)
  refine r_if_eq (tgt := 24) d_M_isThere_7 (by decide) (fun hc_7 => ?_) (fun hc_7 => ?_)
  · refine r_iconst d_M_isThere_24 ic_0 ?_
    exact J7 _ (((if_pos hc_7).trans rfl)).symm
  · refine r_aload_n (i := 0) d_M_isThere_10 rfl rfl ?_
    refine r_iload_n (i := 2) d_M_isThere_11 rfl rfl ?_
    refine r_iconst d_M_isThere_12 ic_2 ?_
    refine r_iconst d_M_isThere_13 ic_3 ?_
    refine rk_VI (b := 0) (d' := 2) [.int a2, .int 2, .int 3] [] d_M_isThere_14 ml_M_292 rfl rfl (by decide) (by decide) rfl rfl (Nat.le_of_ble_eq_true rfl) (s_M_canBe a2 2 3 ?_)
    refine r_if_eq (tgt := 24) d_M_isThere_17 (by decide) (fun hc_17 => ?_) (fun hc_17 => ?_)
    · refine r_iconst d_M_isThere_24 ic_0 ?_
      exact J7 _ (((if_neg hc_7).trans ((if_pos hc_17).trans rfl))).symm
    · refine r_iconst d_M_isThere_20 ic_1 ?_
      refine r_goto (tgt := 25) d_M_isThere_21 (by decide) ?_
      exact J7 _ (((if_neg hc_7).trans ((if_neg hc_17).trans rfl))).symm
def f_M_isThere (a1 : Int32) (a2 : Int32) (hp : rx_Hp) : Int32 := ((if (f_M_canBe a1 0 1 hp) = 0 then 0 else ((if (f_M_canBe a2 2 3 hp) = 0 then 0 else 1) : Int32)) : Int32)
theorem s_M_isThere {G : rx_Gh} {hp : rx_Hp} {F : Int32 → rx_Hp → Prop} (a1 : Int32) (a2 : Int32) (H0 : F (f_M_isThere a1 a2 hp) hp) : Ev wM G 3 q_M_isThere [.ref 0, .int a1, .int a2] hp (rI F) := by
  have H : ∀ v h, v = (f_M_isThere a1 a2 hp) → h = hp → F v h := by rintro _ _ rfl rfl; exact H0
  refine w_M_isThere a1 a2  ?_
  exact H _ _ (rfl).symm (rfl).symm
theorem b_M_isThere (a1 : Int32) (a2 : Int32) (hp : rx_Hp) : (f_M_isThere a1 a2 hp) = 0 ∨ (f_M_isThere a1 a2 hp) = 1 := (rb_ite (Or.inl rfl) (rb_ite (Or.inl rfl) (Or.inr rfl)))
set_option maxHeartbeats 4000000 in
set_option maxRecDepth 20000 in
theorem w_M_glasses {Ω : rx_Om} {G : rx_Gh} {hp : rx_Hp} {F : Int32 → rx_Hp → Prop} (a1 : Int32) (a2 : Int32) (H : F ((f_Mt_abs a1) + (f_Mt_abs a2)) hp) : Ev Ω G 2 q_M_glasses [.int a1, .int a2] hp (rI F) := by
  refine ev_of rfl (Nat.le_of_ble_eq_true rfl) rfl ?_
  show Rn Ω G 2 q_M_glasses 0 [some (.int a1), some (.int a2)] [] hp (rI F)
  refine r_iload_n (i := 0) d_M_glasses_0 rfl rfl ?_
  refine rk_SI (d' := 1) [.int a1] [] d_M_glasses_1 ml_M_295 rfl rfl (by decide) (Nat.le_of_ble_eq_true rfl) (s_Mt_abs a1 ?_)
  refine r_iload_n (i := 1) d_M_glasses_4 rfl rfl ?_
  refine rk_SI (d' := 1) [.int a2] [.int (f_Mt_abs a1)] d_M_glasses_5 ml_M_295 rfl rfl (by decide) (Nat.le_of_ble_eq_true rfl) (s_Mt_abs a2 ?_)
  refine r_iadd d_M_glasses_8 ?_
  exact rI_ret d_M_glasses_9 rfl H
def f_M_glasses (a1 : Int32) (a2 : Int32) : Int32 := (f_Mt_abs a1) + (f_Mt_abs a2)
theorem s_M_glasses {Ω : rx_Om} {G : rx_Gh} {hp : rx_Hp} {F : Int32 → rx_Hp → Prop} (a1 : Int32) (a2 : Int32) (H0 : F (f_M_glasses a1 a2) hp) : Ev Ω G 2 q_M_glasses [.int a1, .int a2] hp (rI F) := by
  have H : ∀ v h, v = (f_M_glasses a1 a2) → h = hp → F v h := by rintro _ _ rfl rfl; exact H0
  refine w_M_glasses a1 a2  ?_
  exact H _ _ (rfl).symm (rfl).symm
set_option maxHeartbeats 4000000 in
set_option maxRecDepth 20000 in
theorem w_M_isImage {G : rx_Gh} {hp : rx_Hp} {F : Int32 → rx_Hp → Prop} (a1 : Int32) (a2 : Int32) (a3 : Int32) (H : F ((if (f_M_isBody a1 hp) = 0 then 0 else ((if (f_M_in a2 (-10) 10) = 0 then 0 else ((if (f_M_in a3 (-10) 10) = 0 then 0 else 1) : Int32)) : Int32)) : Int32) hp) : Ev wM G 3 q_M_isImage [.ref 0, .int a1, .int a2, .int a3] hp (rI F) := by
  refine ev_of rfl (Nat.le_of_ble_eq_true rfl) rfl ?_
  show Rn wM G 3 q_M_isImage 0 [some (.ref 0), some (.int a1), some (.int a2), some (.int a3)] [] hp (rI F)
  have J5 : ∀ (v5_0 : Int32), v5_0 = ((if (f_M_isBody a1 hp) = 0 then 0 else ((if (f_M_in a2 (-10) 10) = 0 then 0 else ((if (f_M_in a3 (-10) 10) = 0 then 0 else 1) : Int32)) : Int32)) : Int32) → Rn wM G 3 q_M_isImage 35 [some (.ref 0), some (.int a1), some (.int a2), some (.int a3)] [.int v5_0] hp (rI F) := by
    rintro _ rfl
    exact rZ_ret d_M_isImage_35 rfl (rb_ite (Or.inl rfl) (rb_ite (Or.inl rfl) (rb_ite (Or.inl rfl) (Or.inr rfl)))) H
  refine r_aload_n (i := 0) d_M_isImage_0 rfl rfl ?_
  refine r_iload_n (i := 1) d_M_isImage_1 rfl rfl ?_
  refine rk_VI (b := 0) (d' := 2) [.int a1] [] d_M_isImage_2 ml_M_267 rfl rfl (by decide) (by decide) rfl rfl (Nat.le_of_ble_eq_true rfl) (s_M_isBody a1 ?_)
  refine r_if_eq (tgt := 34) d_M_isImage_5 (by decide) (fun hc_5 => ?_) (fun hc_5 => ?_)
  · refine r_iconst d_M_isImage_34 ic_0 ?_
    exact J5 _ (((if_pos hc_5).trans rfl)).symm
  · refine r_iload_n (i := 2) d_M_isImage_8 rfl rfl ?_
    refine r_bipush d_M_isImage_9 bp_m10 ?_
    refine r_bipush d_M_isImage_11 bp_10 ?_
    refine rk_SI (d' := 1) [.int a2, .int (-10), .int 10] [] d_M_isImage_13 ml_M_198 rfl rfl (by decide) (Nat.le_of_ble_eq_true rfl) (s_M_in a2 (-10) 10 ?_)
    refine r_if_eq (tgt := 34) d_M_isImage_16 (by decide) (fun hc_16 => ?_) (fun hc_16 => ?_)
    · refine r_iconst d_M_isImage_34 ic_0 ?_
      exact J5 _ (((if_neg hc_5).trans ((if_pos hc_16).trans rfl))).symm
    · refine r_iload_n (i := 3) d_M_isImage_19 rfl rfl ?_
      refine r_bipush d_M_isImage_20 bp_m10 ?_
      refine r_bipush d_M_isImage_22 bp_10 ?_
      refine rk_SI (d' := 1) [.int a3, .int (-10), .int 10] [] d_M_isImage_24 ml_M_198 rfl rfl (by decide) (Nat.le_of_ble_eq_true rfl) (s_M_in a3 (-10) 10 ?_)
      refine r_if_eq (tgt := 34) d_M_isImage_27 (by decide) (fun hc_27 => ?_) (fun hc_27 => ?_)
      · refine r_iconst d_M_isImage_34 ic_0 ?_
        exact J5 _ (((if_neg hc_5).trans ((if_neg hc_16).trans ((if_pos hc_27).trans rfl)))).symm
      · refine r_iconst d_M_isImage_30 ic_1 ?_
        refine r_goto (tgt := 35) d_M_isImage_31 (by decide) ?_
        exact J5 _ (((if_neg hc_5).trans ((if_neg hc_16).trans ((if_neg hc_27).trans rfl)))).symm
def f_M_isImage (a1 : Int32) (a2 : Int32) (a3 : Int32) (hp : rx_Hp) : Int32 := ((if (f_M_isBody a1 hp) = 0 then 0 else ((if (f_M_in a2 (-10) 10) = 0 then 0 else ((if (f_M_in a3 (-10) 10) = 0 then 0 else 1) : Int32)) : Int32)) : Int32)
theorem s_M_isImage {G : rx_Gh} {hp : rx_Hp} {F : Int32 → rx_Hp → Prop} (a1 : Int32) (a2 : Int32) (a3 : Int32) (H0 : F (f_M_isImage a1 a2 a3 hp) hp) : Ev wM G 3 q_M_isImage [.ref 0, .int a1, .int a2, .int a3] hp (rI F) := by
  have H : ∀ v h, v = (f_M_isImage a1 a2 a3 hp) → h = hp → F v h := by rintro _ _ rfl rfl; exact H0
  refine w_M_isImage a1 a2 a3  ?_
  exact H _ _ (rfl).symm (rfl).symm
theorem b_M_isImage (a1 : Int32) (a2 : Int32) (a3 : Int32) (hp : rx_Hp) : (f_M_isImage a1 a2 a3 hp) = 0 ∨ (f_M_isImage a1 a2 a3 hp) = 1 := (rb_ite (Or.inl rfl) (rb_ite (Or.inl rfl) (rb_ite (Or.inl rfl) (Or.inr rfl))))
set_option maxHeartbeats 4000000 in
set_option maxRecDepth 20000 in
theorem w_M_farOf {G : rx_Gh} {hp : rx_Hp} {F : Int32 → rx_Hp → Prop} (a1 : Int32) (a2 : Int32) (a3 : Int32) (a4 : Int32) (H : p_M_imageX a1 a2 ∧ (vp_in a4 6 ∧ (p_M_imageY a1 a3 ∧ (F ((((f_M_imageX a1 a2 hp) - (hp.2.1 13 a4.toNatClampNeg)) * ((f_M_imageX a1 a2 hp) - (hp.2.1 13 a4.toNatClampNeg))) + (((f_M_imageY a1 a3 hp) - (hp.2.1 14 a4.toNatClampNeg)) * ((f_M_imageY a1 a3 hp) - (hp.2.1 14 a4.toNatClampNeg)))) hp)))) : Ev wM G 3 q_M_farOf [.ref 0, .int a1, .int a2, .int a3, .int a4] hp (rI F) := by
  refine ev_of rfl (Nat.le_of_ble_eq_true rfl) rfl ?_
  show Rn wM G 3 q_M_farOf 0 [some (.ref 0), some (.int a1), some (.int a2), some (.int a3), some (.int a4), none, none] [] hp (rI F)
  refine r_aload_n (i := 0) d_M_farOf_0 rfl rfl ?_
  refine r_iload_n (i := 1) d_M_farOf_1 rfl rfl ?_
  refine r_iload_n (i := 2) d_M_farOf_2 rfl rfl ?_
  obtain ⟨hp_3_0, H⟩ := H
  refine rk_VI (b := 0) (d' := 2) [.int a1, .int a2] [] d_M_farOf_3 ml_M_299 rfl rfl (by decide) (by decide) rfl rfl (Nat.le_of_ble_eq_true rfl) (s_M_imageX a1 a2 hp_3_0 ?_)
  refine r_aload_n (i := 0) d_M_farOf_6 rfl rfl ?_
  refine r_getR (b := 0) (r := 13) d_M_farOf_7 fl_M_46 (by decide) rfl rfl rfl ?_
  refine r_iload d_M_farOf_10 rfl ?_
  obtain ⟨hi_12, H⟩ := H
  refine r_iald (b := 13) (v := hp.2.1 13 a4.toNatClampNeg) d_M_farOf_12 (by decide) rfl hi_12 rfl ?_
  refine r_isub d_M_farOf_13 ?_
  refine r_istore (lz := [some (.ref 0), some (.int a1), some (.int a2), some (.int a3), some (.int a4), some (.int ((f_M_imageX a1 a2 hp) - (hp.2.1 13 a4.toNatClampNeg))), none]) d_M_farOf_14 (by decide) rfl rfl ?_
  refine r_aload_n (i := 0) d_M_farOf_16 rfl rfl ?_
  refine r_iload_n (i := 1) d_M_farOf_17 rfl rfl ?_
  refine r_iload_n (i := 3) d_M_farOf_18 rfl rfl ?_
  obtain ⟨hp_19_0, H⟩ := H
  refine rk_VI (b := 0) (d' := 2) [.int a1, .int a3] [] d_M_farOf_19 ml_M_302 rfl rfl (by decide) (by decide) rfl rfl (Nat.le_of_ble_eq_true rfl) (s_M_imageY a1 a3 hp_19_0 ?_)
  refine r_aload_n (i := 0) d_M_farOf_22 rfl rfl ?_
  refine r_getR (b := 0) (r := 14) d_M_farOf_23 fl_M_49 (by decide) rfl rfl rfl ?_
  refine r_iload d_M_farOf_26 rfl ?_
  refine r_iald (b := 14) (v := hp.2.1 14 a4.toNatClampNeg) d_M_farOf_28 (by decide) rfl hi_12 rfl ?_
  refine r_isub d_M_farOf_29 ?_
  refine r_istore (lz := [some (.ref 0), some (.int a1), some (.int a2), some (.int a3), some (.int a4), some (.int ((f_M_imageX a1 a2 hp) - (hp.2.1 13 a4.toNatClampNeg))), some (.int ((f_M_imageY a1 a3 hp) - (hp.2.1 14 a4.toNatClampNeg)))]) d_M_farOf_30 (by decide) rfl rfl ?_
  refine r_iload d_M_farOf_32 rfl ?_
  refine r_iload d_M_farOf_34 rfl ?_
  refine r_imul d_M_farOf_36 ?_
  refine r_iload d_M_farOf_37 rfl ?_
  refine r_iload d_M_farOf_39 rfl ?_
  refine r_imul d_M_farOf_41 ?_
  refine r_iadd d_M_farOf_42 ?_
  exact rI_ret d_M_farOf_43 rfl H
def f_M_farOf (a1 : Int32) (a2 : Int32) (a3 : Int32) (a4 : Int32) (hp : rx_Hp) : Int32 := (((f_M_imageX a1 a2 hp) - (hp.2.1 13 a4.toNatClampNeg)) * ((f_M_imageX a1 a2 hp) - (hp.2.1 13 a4.toNatClampNeg))) + (((f_M_imageY a1 a3 hp) - (hp.2.1 14 a4.toNatClampNeg)) * ((f_M_imageY a1 a3 hp) - (hp.2.1 14 a4.toNatClampNeg)))
def p_M_farOf (a1 : Int32) (a2 : Int32) (a3 : Int32) (a4 : Int32) : Prop := p_M_imageX a1 a2 ∧ (vp_in a4 6 ∧ (p_M_imageY a1 a3))
theorem s_M_farOf {G : rx_Gh} {hp : rx_Hp} {F : Int32 → rx_Hp → Prop} (a1 : Int32) (a2 : Int32) (a3 : Int32) (a4 : Int32) (hP : (p_M_farOf a1 a2 a3 a4)) (H0 : F (f_M_farOf a1 a2 a3 a4 hp) hp) : Ev wM G 3 q_M_farOf [.ref 0, .int a1, .int a2, .int a3, .int a4] hp (rI F) := by
  have H : ∀ v h, v = (f_M_farOf a1 a2 a3 a4 hp) → h = hp → F v h := by rintro _ _ rfl rfl; exact H0
  unfold p_M_farOf at hP
  refine w_M_farOf a1 a2 a3 a4  ?_
  refine ⟨hP.1, ?_⟩
  refine ⟨hP.2.1, ?_⟩
  refine ⟨hP.2.2, ?_⟩
  exact H _ _ (rfl).symm (rfl).symm
set_option maxHeartbeats 4000000 in
set_option maxRecDepth 20000 in
theorem w_M_far {G : rx_Gh} {hp : rx_Hp} {F : Int32 → rx_Hp → Prop} (a1 : Int32) (a2 : Int32) (a3 : Int32) (a4 : Int32) (H : ((f_M_isImage a1 a2 a3 hp) = 0 → F (-1) hp) ∧ (¬ (f_M_isImage a1 a2 a3 hp) = 0 → ((f_M_isBody a4 hp) = 0 → F (-1) hp) ∧ (¬ (f_M_isBody a4 hp) = 0 → p_M_farOf a1 a2 a3 a4 ∧ (F (f_M_farOf a1 a2 a3 a4 hp) hp)))) : Ev wM G 4 q_M_far [.ref 0, .int a1, .int a2, .int a3, .int a4] hp (rI F) := by
  refine ev_of rfl (Nat.le_of_ble_eq_true rfl) rfl ?_
  show Rn wM G 4 q_M_far 0 [some (.ref 0), some (.int a1), some (.int a2), some (.int a3), some (.int a4)] [] hp (rI F)
  refine r_aload_n (i := 0) d_M_far_0 rfl rfl ?_
  refine r_iload_n (i := 1) d_M_far_1 rfl rfl ?_
  refine r_iload_n (i := 2) d_M_far_2 rfl rfl ?_
  refine r_iload_n (i := 3) d_M_far_3 rfl rfl ?_
  refine rk_VI (b := 0) (d' := 3) [.int a1, .int a2, .int a3] [] d_M_far_4 ml_M_305 rfl rfl (by decide) (by decide) rfl rfl (Nat.le_of_ble_eq_true rfl) (s_M_isImage a1 a2 a3 ?_)
  refine r_if_eq (tgt := 31) d_M_far_7 (by decide) (fun hc_7 => ?_) (fun hc_7 => ?_)
  · replace H := H.1 hc_7
    refine r_iconst d_M_far_31 ic_m1 ?_
    exact rI_ret d_M_far_32 rfl H
  · replace H := H.2 hc_7
    refine r_aload_n (i := 0) d_M_far_10 rfl rfl ?_
    refine r_iload d_M_far_11 rfl ?_
    refine rk_VI (b := 0) (d' := 2) [.int a4] [] d_M_far_13 ml_M_267 rfl rfl (by decide) (by decide) rfl rfl (Nat.le_of_ble_eq_true rfl) (s_M_isBody a4 ?_)
    refine r_if_eq (tgt := 31) d_M_far_16 (by decide) (fun hc_16 => ?_) (fun hc_16 => ?_)
    · replace H := H.1 hc_16
      refine r_iconst d_M_far_31 ic_m1 ?_
      exact rI_ret d_M_far_32 rfl H
    · replace H := H.2 hc_16
      refine r_aload_n (i := 0) d_M_far_19 rfl rfl ?_
      refine r_iload_n (i := 1) d_M_far_20 rfl rfl ?_
      refine r_iload_n (i := 2) d_M_far_21 rfl rfl ?_
      refine r_iload_n (i := 3) d_M_far_22 rfl rfl ?_
      refine r_iload d_M_far_23 rfl ?_
      obtain ⟨hp_25_0, H⟩ := H
      refine rk_VI (b := 0) (d' := 3) [.int a1, .int a2, .int a3, .int a4] [] d_M_far_25 ml_M_318 rfl rfl (by decide) (by decide) rfl rfl (Nat.le_of_ble_eq_true rfl) (s_M_farOf a1 a2 a3 a4 hp_25_0 ?_)
      refine r_goto (tgt := 32) d_M_far_28 (by decide) ?_
      exact rI_ret d_M_far_32 rfl H
def f_M_far (a1 : Int32) (a2 : Int32) (a3 : Int32) (a4 : Int32) (hp : rx_Hp) : Int32 := (if (f_M_isImage a1 a2 a3 hp) = 0 then (-1) else (if (f_M_isBody a4 hp) = 0 then (-1) else (f_M_farOf a1 a2 a3 a4 hp)))
def p_M_far (a1 : Int32) (a2 : Int32) (a3 : Int32) (a4 : Int32) (hp : rx_Hp) : Prop := (¬ (f_M_isImage a1 a2 a3 hp) = 0 → (¬ (f_M_isBody a4 hp) = 0 → p_M_farOf a1 a2 a3 a4))
theorem s_M_far {G : rx_Gh} {hp : rx_Hp} {F : Int32 → rx_Hp → Prop} (a1 : Int32) (a2 : Int32) (a3 : Int32) (a4 : Int32) (hP : (p_M_far a1 a2 a3 a4 hp)) (H0 : F (f_M_far a1 a2 a3 a4 hp) hp) : Ev wM G 4 q_M_far [.ref 0, .int a1, .int a2, .int a3, .int a4] hp (rI F) := by
  have H : ∀ v h, v = (f_M_far a1 a2 a3 a4 hp) → h = hp → F v h := by rintro _ _ rfl rfl; exact H0
  unfold p_M_far at hP
  refine w_M_far a1 a2 a3 a4  ?_
  refine ⟨fun hc_7 => ?_, fun hc_7 => ?_⟩
  · exact H _ _ (((if_pos hc_7).trans rfl)).symm (rfl).symm
  · refine ⟨fun hc_16 => ?_, fun hc_16 => ?_⟩
    · exact H _ _ (((if_neg hc_7).trans ((if_pos hc_16).trans rfl))).symm (rfl).symm
    · refine ⟨((hP hc_7) hc_16), ?_⟩
      exact H _ _ (((if_neg hc_7).trans ((if_neg hc_16).trans rfl))).symm (rfl).symm
set_option maxHeartbeats 4000000 in
set_option maxRecDepth 20000 in
theorem w_M_isOn {Ω : rx_Om} {G : rx_Gh} {hp : rx_Hp} {F : Int32 → rx_Hp → Prop} (a1 : Int32) (a2 : Int32) (a3 : Int32) (a4 : Int32) (H : ((a1 * a4) = (a2 * a3) → F ((if ((a1 * a3) + (a2 * a4)) ≤ 0 then 0 else ((if ((a1 * a1) + (a2 * a2)) ≤ ((a1 * a3) + (a2 * a4)) then 0 else 1) : Int32)) : Int32) hp) ∧ (¬ (a1 * a4) = (a2 * a3) → F 0 hp)) : Ev Ω G 1 q_M_isOn [.int a1, .int a2, .int a3, .int a4] hp (rI F) := by
  refine ev_of rfl (Nat.le_of_ble_eq_true rfl) rfl ?_
  show Rn Ω G 1 q_M_isOn 0 [some (.int a1), some (.int a2), some (.int a3), some (.int a4), none] [] hp (rI F)
  refine r_iload_n (i := 0) d_M_isOn_0 rfl rfl ?_
  refine r_iload_n (i := 3) d_M_isOn_1 rfl rfl ?_
  refine r_imul d_M_isOn_2 ?_
  refine r_iload_n (i := 1) d_M_isOn_3 rfl rfl ?_
  refine r_iload_n (i := 2) d_M_isOn_4 rfl rfl ?_
  refine r_imul d_M_isOn_5 ?_
  refine r_icmp_eq (tgt := 11) d_M_isOn_6 (by decide) (fun hc_6 => ?_) (fun hc_6 => ?_)
  · replace H := H.1 hc_6
    have J22 : ∀ (v22_0 : Int32), v22_0 = ((if ((a1 * a3) + (a2 * a4)) ≤ 0 then 0 else ((if ((a1 * a1) + (a2 * a2)) ≤ ((a1 * a3) + (a2 * a4)) then 0 else 1) : Int32)) : Int32) → Rn Ω G 1 q_M_isOn 42 [some (.int a1), some (.int a2), some (.int a3), some (.int a4), some (.int ((a1 * a3) + (a2 * a4)))] [.int v22_0] hp (rI F) := by
      rintro _ rfl
      exact rZ_ret d_M_isOn_42 rfl (rb_ite (Or.inl rfl) (rb_ite (Or.inl rfl) (Or.inr rfl))) H
    refine r_iload_n (i := 0) d_M_isOn_11 rfl rfl ?_
    refine r_iload_n (i := 2) d_M_isOn_12 rfl rfl ?_
    refine r_imul d_M_isOn_13 ?_
    refine r_iload_n (i := 1) d_M_isOn_14 rfl rfl ?_
    refine r_iload_n (i := 3) d_M_isOn_15 rfl rfl ?_
    refine r_imul d_M_isOn_16 ?_
    refine r_iadd d_M_isOn_17 ?_
    refine r_istore (lz := [some (.int a1), some (.int a2), some (.int a3), some (.int a4), some (.int ((a1 * a3) + (a2 * a4)))]) d_M_isOn_18 (by decide) rfl rfl ?_
    refine r_iload d_M_isOn_20 rfl ?_
    refine r_if_le (tgt := 41) d_M_isOn_22 (by decide) (fun hc_22 => ?_) (fun hc_22 => ?_)
    · refine r_iconst d_M_isOn_41 ic_0 ?_
      exact J22 _ (((if_pos hc_22).trans rfl)).symm
    · refine r_iload d_M_isOn_25 rfl ?_
      refine r_iload_n (i := 0) d_M_isOn_27 rfl rfl ?_
      refine r_iload_n (i := 0) d_M_isOn_28 rfl rfl ?_
      refine r_imul d_M_isOn_29 ?_
      refine r_iload_n (i := 1) d_M_isOn_30 rfl rfl ?_
      refine r_iload_n (i := 1) d_M_isOn_31 rfl rfl ?_
      refine r_imul d_M_isOn_32 ?_
      refine r_iadd d_M_isOn_33 ?_
      refine r_icmp_ge (tgt := 41) d_M_isOn_34 (by decide) (fun hc_34 => ?_) (fun hc_34 => ?_)
      · refine r_iconst d_M_isOn_41 ic_0 ?_
        exact J22 _ (((if_neg hc_22).trans ((if_pos hc_34).trans rfl))).symm
      · refine r_iconst d_M_isOn_37 ic_1 ?_
        refine r_goto (tgt := 42) d_M_isOn_38 (by decide) ?_
        exact J22 _ (((if_neg hc_22).trans ((if_neg hc_34).trans rfl))).symm
  · replace H := H.2 hc_6
    refine r_iconst d_M_isOn_9 ic_0 ?_
    exact rZ_ret d_M_isOn_10 rfl (Or.inl rfl) H
def f_M_isOn (a1 : Int32) (a2 : Int32) (a3 : Int32) (a4 : Int32) : Int32 := (if (a1 * a4) = (a2 * a3) then ((if ((a1 * a3) + (a2 * a4)) ≤ 0 then 0 else ((if ((a1 * a1) + (a2 * a2)) ≤ ((a1 * a3) + (a2 * a4)) then 0 else 1) : Int32)) : Int32) else 0)
theorem s_M_isOn {Ω : rx_Om} {G : rx_Gh} {hp : rx_Hp} {F : Int32 → rx_Hp → Prop} (a1 : Int32) (a2 : Int32) (a3 : Int32) (a4 : Int32) (H0 : F (f_M_isOn a1 a2 a3 a4) hp) : Ev Ω G 1 q_M_isOn [.int a1, .int a2, .int a3, .int a4] hp (rI F) := by
  have H : ∀ v h, v = (f_M_isOn a1 a2 a3 a4) → h = hp → F v h := by rintro _ _ rfl rfl; exact H0
  refine w_M_isOn a1 a2 a3 a4  ?_
  refine ⟨fun hc_6 => ?_, fun hc_6 => ?_⟩
  · exact H _ _ (((if_pos hc_6).trans rfl)).symm (rfl).symm
  · exact H _ _ (((if_neg hc_6).trans rfl)).symm (rfl).symm
theorem b_M_isOn (a1 : Int32) (a2 : Int32) (a3 : Int32) (a4 : Int32) : (f_M_isOn a1 a2 a3 a4) = 0 ∨ (f_M_isOn a1 a2 a3 a4) = 1 := (rb_ite (rb_ite (Or.inl rfl) (rb_ite (Or.inl rfl) (Or.inr rfl))) (Or.inl rfl))
set_option maxHeartbeats 4000000 in
set_option maxRecDepth 20000 in
theorem w_M_layHang {G : rx_Gh} {hp : rx_Hp} {F : Int32 → rx_Hp → Prop} (a1 : Int32) (a2 : Int32) (a3 : Int32) (H : (((if a3 = 0 then 1 else ((if a3 = 1 then 1 else 0) : Int32)) : Int32) = 0 → vp_in a1 6 ∧ (vp_in a2 6 ∧ (F ((if (((if (a3 - a3 / 2 * 2) = 0 then (hp.2.1 14 a1.toNatClampNeg) else (((if ((if a3 = 0 then 1 else ((if a3 = 1 then 1 else 0) : Int32)) : Int32) = 0 then (hp.1 0 25) else (hp.1 0 24)) : Int32) - (hp.2.1 14 a1.toNatClampNeg))) : Int32) + ((if (a3 - a3 / 2 * 2) = 0 then (hp.2.1 14 a2.toNatClampNeg) else (((if ((if a3 = 0 then 1 else ((if a3 = 1 then 1 else 0) : Int32)) : Int32) = 0 then (hp.1 0 25) else (hp.1 0 24)) : Int32) - (hp.2.1 14 a2.toNatClampNeg))) : Int32)) ≤ 0 then 0 else 1) : Int32) (rx_pf (rx_pf hp 0 35 (((hp.2.1 13 a1.toNatClampNeg) * ((if (a3 - a3 / 2 * 2) = 0 then (hp.2.1 14 a2.toNatClampNeg) else (((if ((if a3 = 0 then 1 else ((if a3 = 1 then 1 else 0) : Int32)) : Int32) = 0 then (hp.1 0 25) else (hp.1 0 24)) : Int32) - (hp.2.1 14 a2.toNatClampNeg))) : Int32)) + ((hp.2.1 13 a2.toNatClampNeg) * ((if (a3 - a3 / 2 * 2) = 0 then (hp.2.1 14 a1.toNatClampNeg) else (((if ((if a3 = 0 then 1 else ((if a3 = 1 then 1 else 0) : Int32)) : Int32) = 0 then (hp.1 0 25) else (hp.1 0 24)) : Int32) - (hp.2.1 14 a1.toNatClampNeg))) : Int32)))) 0 36 (((if (a3 - a3 / 2 * 2) = 0 then (hp.2.1 14 a1.toNatClampNeg) else (((if ((if a3 = 0 then 1 else ((if a3 = 1 then 1 else 0) : Int32)) : Int32) = 0 then (hp.1 0 25) else (hp.1 0 24)) : Int32) - (hp.2.1 14 a1.toNatClampNeg))) : Int32) + ((if (a3 - a3 / 2 * 2) = 0 then (hp.2.1 14 a2.toNatClampNeg) else (((if ((if a3 = 0 then 1 else ((if a3 = 1 then 1 else 0) : Int32)) : Int32) = 0 then (hp.1 0 25) else (hp.1 0 24)) : Int32) - (hp.2.1 14 a2.toNatClampNeg))) : Int32)))))) ∧ (¬ ((if a3 = 0 then 1 else ((if a3 = 1 then 1 else 0) : Int32)) : Int32) = 0 → vp_in a1 6 ∧ (vp_in a2 6 ∧ (F ((if (((if (a3 - a3 / 2 * 2) = 0 then (hp.2.1 13 a1.toNatClampNeg) else (((if ((if a3 = 0 then 1 else ((if a3 = 1 then 1 else 0) : Int32)) : Int32) = 0 then (hp.1 0 25) else (hp.1 0 24)) : Int32) - (hp.2.1 13 a1.toNatClampNeg))) : Int32) + ((if (a3 - a3 / 2 * 2) = 0 then (hp.2.1 13 a2.toNatClampNeg) else (((if ((if a3 = 0 then 1 else ((if a3 = 1 then 1 else 0) : Int32)) : Int32) = 0 then (hp.1 0 25) else (hp.1 0 24)) : Int32) - (hp.2.1 13 a2.toNatClampNeg))) : Int32)) ≤ 0 then 0 else 1) : Int32) (rx_pf (rx_pf hp 0 35 (((hp.2.1 14 a1.toNatClampNeg) * ((if (a3 - a3 / 2 * 2) = 0 then (hp.2.1 13 a2.toNatClampNeg) else (((if ((if a3 = 0 then 1 else ((if a3 = 1 then 1 else 0) : Int32)) : Int32) = 0 then (hp.1 0 25) else (hp.1 0 24)) : Int32) - (hp.2.1 13 a2.toNatClampNeg))) : Int32)) + ((hp.2.1 14 a2.toNatClampNeg) * ((if (a3 - a3 / 2 * 2) = 0 then (hp.2.1 13 a1.toNatClampNeg) else (((if ((if a3 = 0 then 1 else ((if a3 = 1 then 1 else 0) : Int32)) : Int32) = 0 then (hp.1 0 25) else (hp.1 0 24)) : Int32) - (hp.2.1 13 a1.toNatClampNeg))) : Int32)))) 0 36 (((if (a3 - a3 / 2 * 2) = 0 then (hp.2.1 13 a1.toNatClampNeg) else (((if ((if a3 = 0 then 1 else ((if a3 = 1 then 1 else 0) : Int32)) : Int32) = 0 then (hp.1 0 25) else (hp.1 0 24)) : Int32) - (hp.2.1 13 a1.toNatClampNeg))) : Int32) + ((if (a3 - a3 / 2 * 2) = 0 then (hp.2.1 13 a2.toNatClampNeg) else (((if ((if a3 = 0 then 1 else ((if a3 = 1 then 1 else 0) : Int32)) : Int32) = 0 then (hp.1 0 25) else (hp.1 0 24)) : Int32) - (hp.2.1 13 a2.toNatClampNeg))) : Int32))))))) : Ev wM G 1 q_M_layHang [.ref 0, .int a1, .int a2, .int a3] hp (rI F) := by
  refine ev_of rfl (Nat.le_of_ble_eq_true rfl) rfl ?_
  show Rn wM G 1 q_M_layHang 0 [some (.ref 0), some (.int a1), some (.int a2), some (.int a3), none, none, none, none, none, none, none, none] [] hp (rI F)
  have J1 : ∀ (v1_0 : Int32), v1_0 = ((if a3 = 0 then 1 else ((if a3 = 1 then 1 else 0) : Int32)) : Int32) → Rn wM G 1 q_M_layHang 14 [some (.ref 0), some (.int a1), some (.int a2), some (.int a3), none, none, none, none, none, none, none, none] [.int v1_0] hp (rI F) := by
    rintro _ rfl
    have J18 : ∀ (v18_0 : Int32), v18_0 = ((if ((if a3 = 0 then 1 else ((if a3 = 1 then 1 else 0) : Int32)) : Int32) = 0 then (hp.1 0 25) else (hp.1 0 24)) : Int32) → Rn wM G 1 q_M_layHang 32 [some (.ref 0), some (.int a1), some (.int a2), some (.int a3), some (.int ((if a3 = 0 then 1 else ((if a3 = 1 then 1 else 0) : Int32)) : Int32)), none, none, none, none, none, none, none] [.int v18_0] hp (rI F) := by
      rintro _ rfl
      refine r_istore (lz := [some (.ref 0), some (.int a1), some (.int a2), some (.int a3), some (.int ((if a3 = 0 then 1 else ((if a3 = 1 then 1 else 0) : Int32)) : Int32)), some (.int ((if ((if a3 = 0 then 1 else ((if a3 = 1 then 1 else 0) : Int32)) : Int32) = 0 then (hp.1 0 25) else (hp.1 0 24)) : Int32)), none, none, none, none, none, none]) d_M_layHang_32 (by decide) rfl rfl ?_
      refine r_iload d_M_layHang_34 rfl ?_
      refine r_if_eq (tgt := 48) d_M_layHang_36 (by decide) (fun hc_36 => ?_) (fun hc_36 => ?_)
      · replace H := H.1 hc_36
        refine r_aload_n (i := 0) d_M_layHang_48 rfl rfl ?_
        refine r_getR (b := 0) (r := 14) d_M_layHang_49 fl_M_49 (by decide) rfl rfl rfl ?_
        refine r_iload_n (i := 1) d_M_layHang_52 rfl rfl ?_
        obtain ⟨hi_53, H⟩ := H
        refine r_iald (b := 14) (v := hp.2.1 14 a1.toNatClampNeg) d_M_layHang_53 (by decide) rfl hi_53 rfl ?_
        refine r_istore (lz := [some (.ref 0), some (.int a1), some (.int a2), some (.int a3), some (.int ((if a3 = 0 then 1 else ((if a3 = 1 then 1 else 0) : Int32)) : Int32)), some (.int ((if ((if a3 = 0 then 1 else ((if a3 = 1 then 1 else 0) : Int32)) : Int32) = 0 then (hp.1 0 25) else (hp.1 0 24)) : Int32)), some (.int (hp.2.1 14 a1.toNatClampNeg)), none, none, none, none, none]) d_M_layHang_54 (by decide) rfl rfl ?_
        refine r_iload d_M_layHang_56 rfl ?_
        refine r_if_eq (tgt := 70) d_M_layHang_58 (by decide) (fun _ => ?_) (fun h => absurd hc_36 h)
        refine r_aload_n (i := 0) d_M_layHang_70 rfl rfl ?_
        refine r_getR (b := 0) (r := 14) d_M_layHang_71 fl_M_49 (by decide) rfl rfl rfl ?_
        refine r_iload_n (i := 2) d_M_layHang_74 rfl rfl ?_
        obtain ⟨hi_75, H⟩ := H
        refine r_iald (b := 14) (v := hp.2.1 14 a2.toNatClampNeg) d_M_layHang_75 (by decide) rfl hi_75 rfl ?_
        have J81 : ∀ (v81_0 : Int32), v81_0 = ((if (a3 - a3 / 2 * 2) = 0 then (hp.2.1 14 a1.toNatClampNeg) else (((if ((if a3 = 0 then 1 else ((if a3 = 1 then 1 else 0) : Int32)) : Int32) = 0 then (hp.1 0 25) else (hp.1 0 24)) : Int32) - (hp.2.1 14 a1.toNatClampNeg))) : Int32) → Rn wM G 1 q_M_layHang 94 [some (.ref 0), some (.int a1), some (.int a2), some (.int a3), some (.int ((if a3 = 0 then 1 else ((if a3 = 1 then 1 else 0) : Int32)) : Int32)), some (.int ((if ((if a3 = 0 then 1 else ((if a3 = 1 then 1 else 0) : Int32)) : Int32) = 0 then (hp.1 0 25) else (hp.1 0 24)) : Int32)), some (.int (hp.2.1 14 a1.toNatClampNeg)), some (.int (hp.2.1 14 a2.toNatClampNeg)), none, none, none, none] [.int v81_0] hp (rI F) := by
          rintro _ rfl
          have J99 : ∀ (v99_0 : Int32), v99_0 = ((if (a3 - a3 / 2 * 2) = 0 then (hp.2.1 14 a2.toNatClampNeg) else (((if ((if a3 = 0 then 1 else ((if a3 = 1 then 1 else 0) : Int32)) : Int32) = 0 then (hp.1 0 25) else (hp.1 0 24)) : Int32) - (hp.2.1 14 a2.toNatClampNeg))) : Int32) → Rn wM G 1 q_M_layHang 112 [some (.ref 0), some (.int a1), some (.int a2), some (.int a3), some (.int ((if a3 = 0 then 1 else ((if a3 = 1 then 1 else 0) : Int32)) : Int32)), some (.int ((if ((if a3 = 0 then 1 else ((if a3 = 1 then 1 else 0) : Int32)) : Int32) = 0 then (hp.1 0 25) else (hp.1 0 24)) : Int32)), some (.int (hp.2.1 14 a1.toNatClampNeg)), some (.int (hp.2.1 14 a2.toNatClampNeg)), some (.int ((if (a3 - a3 / 2 * 2) = 0 then (hp.2.1 14 a1.toNatClampNeg) else (((if ((if a3 = 0 then 1 else ((if a3 = 1 then 1 else 0) : Int32)) : Int32) = 0 then (hp.1 0 25) else (hp.1 0 24)) : Int32) - (hp.2.1 14 a1.toNatClampNeg))) : Int32)), none, none, none] [.int v99_0] hp (rI F) := by
            rintro _ rfl
            have J186 : ∀ (v186_0 : Int32), v186_0 = ((if (((if (a3 - a3 / 2 * 2) = 0 then (hp.2.1 14 a1.toNatClampNeg) else (((if ((if a3 = 0 then 1 else ((if a3 = 1 then 1 else 0) : Int32)) : Int32) = 0 then (hp.1 0 25) else (hp.1 0 24)) : Int32) - (hp.2.1 14 a1.toNatClampNeg))) : Int32) + ((if (a3 - a3 / 2 * 2) = 0 then (hp.2.1 14 a2.toNatClampNeg) else (((if ((if a3 = 0 then 1 else ((if a3 = 1 then 1 else 0) : Int32)) : Int32) = 0 then (hp.1 0 25) else (hp.1 0 24)) : Int32) - (hp.2.1 14 a2.toNatClampNeg))) : Int32)) ≤ 0 then 0 else 1) : Int32) → Rn wM G 1 q_M_layHang 194 [some (.ref 0), some (.int a1), some (.int a2), some (.int a3), some (.int ((if a3 = 0 then 1 else ((if a3 = 1 then 1 else 0) : Int32)) : Int32)), some (.int ((if ((if a3 = 0 then 1 else ((if a3 = 1 then 1 else 0) : Int32)) : Int32) = 0 then (hp.1 0 25) else (hp.1 0 24)) : Int32)), some (.int (hp.2.1 14 a1.toNatClampNeg)), some (.int (hp.2.1 14 a2.toNatClampNeg)), some (.int ((if (a3 - a3 / 2 * 2) = 0 then (hp.2.1 14 a1.toNatClampNeg) else (((if ((if a3 = 0 then 1 else ((if a3 = 1 then 1 else 0) : Int32)) : Int32) = 0 then (hp.1 0 25) else (hp.1 0 24)) : Int32) - (hp.2.1 14 a1.toNatClampNeg))) : Int32)), some (.int ((if (a3 - a3 / 2 * 2) = 0 then (hp.2.1 14 a2.toNatClampNeg) else (((if ((if a3 = 0 then 1 else ((if a3 = 1 then 1 else 0) : Int32)) : Int32) = 0 then (hp.1 0 25) else (hp.1 0 24)) : Int32) - (hp.2.1 14 a2.toNatClampNeg))) : Int32)), some (.int (hp.2.1 13 a1.toNatClampNeg)), some (.int (hp.2.1 13 a2.toNatClampNeg))] [.int v186_0] (rx_pf (rx_pf hp 0 35 (((hp.2.1 13 a1.toNatClampNeg) * ((if (a3 - a3 / 2 * 2) = 0 then (hp.2.1 14 a2.toNatClampNeg) else (((if ((if a3 = 0 then 1 else ((if a3 = 1 then 1 else 0) : Int32)) : Int32) = 0 then (hp.1 0 25) else (hp.1 0 24)) : Int32) - (hp.2.1 14 a2.toNatClampNeg))) : Int32)) + ((hp.2.1 13 a2.toNatClampNeg) * ((if (a3 - a3 / 2 * 2) = 0 then (hp.2.1 14 a1.toNatClampNeg) else (((if ((if a3 = 0 then 1 else ((if a3 = 1 then 1 else 0) : Int32)) : Int32) = 0 then (hp.1 0 25) else (hp.1 0 24)) : Int32) - (hp.2.1 14 a1.toNatClampNeg))) : Int32)))) 0 36 (((if (a3 - a3 / 2 * 2) = 0 then (hp.2.1 14 a1.toNatClampNeg) else (((if ((if a3 = 0 then 1 else ((if a3 = 1 then 1 else 0) : Int32)) : Int32) = 0 then (hp.1 0 25) else (hp.1 0 24)) : Int32) - (hp.2.1 14 a1.toNatClampNeg))) : Int32) + ((if (a3 - a3 / 2 * 2) = 0 then (hp.2.1 14 a2.toNatClampNeg) else (((if ((if a3 = 0 then 1 else ((if a3 = 1 then 1 else 0) : Int32)) : Int32) = 0 then (hp.1 0 25) else (hp.1 0 24)) : Int32) - (hp.2.1 14 a2.toNatClampNeg))) : Int32))) (rI F) := by
              rintro _ rfl
              exact rZ_ret d_M_layHang_194 rfl (rb_ite (Or.inl rfl) (Or.inr rfl)) H
            refine r_istore (lz := [some (.ref 0), some (.int a1), some (.int a2), some (.int a3), some (.int ((if a3 = 0 then 1 else ((if a3 = 1 then 1 else 0) : Int32)) : Int32)), some (.int ((if ((if a3 = 0 then 1 else ((if a3 = 1 then 1 else 0) : Int32)) : Int32) = 0 then (hp.1 0 25) else (hp.1 0 24)) : Int32)), some (.int (hp.2.1 14 a1.toNatClampNeg)), some (.int (hp.2.1 14 a2.toNatClampNeg)), some (.int ((if (a3 - a3 / 2 * 2) = 0 then (hp.2.1 14 a1.toNatClampNeg) else (((if ((if a3 = 0 then 1 else ((if a3 = 1 then 1 else 0) : Int32)) : Int32) = 0 then (hp.1 0 25) else (hp.1 0 24)) : Int32) - (hp.2.1 14 a1.toNatClampNeg))) : Int32)), some (.int ((if (a3 - a3 / 2 * 2) = 0 then (hp.2.1 14 a2.toNatClampNeg) else (((if ((if a3 = 0 then 1 else ((if a3 = 1 then 1 else 0) : Int32)) : Int32) = 0 then (hp.1 0 25) else (hp.1 0 24)) : Int32) - (hp.2.1 14 a2.toNatClampNeg))) : Int32)), none, none]) d_M_layHang_112 (by decide) rfl rfl ?_
            refine r_iload d_M_layHang_114 rfl ?_
            refine r_if_eq (tgt := 128) d_M_layHang_116 (by decide) (fun _ => ?_) (fun h => absurd hc_36 h)
            refine r_aload_n (i := 0) d_M_layHang_128 rfl rfl ?_
            refine r_getR (b := 0) (r := 13) d_M_layHang_129 fl_M_46 (by decide) rfl rfl rfl ?_
            refine r_iload_n (i := 1) d_M_layHang_132 rfl rfl ?_
            refine r_iald (b := 13) (v := hp.2.1 13 a1.toNatClampNeg) d_M_layHang_133 (by decide) rfl hi_53 rfl ?_
            refine r_istore (lz := [some (.ref 0), some (.int a1), some (.int a2), some (.int a3), some (.int ((if a3 = 0 then 1 else ((if a3 = 1 then 1 else 0) : Int32)) : Int32)), some (.int ((if ((if a3 = 0 then 1 else ((if a3 = 1 then 1 else 0) : Int32)) : Int32) = 0 then (hp.1 0 25) else (hp.1 0 24)) : Int32)), some (.int (hp.2.1 14 a1.toNatClampNeg)), some (.int (hp.2.1 14 a2.toNatClampNeg)), some (.int ((if (a3 - a3 / 2 * 2) = 0 then (hp.2.1 14 a1.toNatClampNeg) else (((if ((if a3 = 0 then 1 else ((if a3 = 1 then 1 else 0) : Int32)) : Int32) = 0 then (hp.1 0 25) else (hp.1 0 24)) : Int32) - (hp.2.1 14 a1.toNatClampNeg))) : Int32)), some (.int ((if (a3 - a3 / 2 * 2) = 0 then (hp.2.1 14 a2.toNatClampNeg) else (((if ((if a3 = 0 then 1 else ((if a3 = 1 then 1 else 0) : Int32)) : Int32) = 0 then (hp.1 0 25) else (hp.1 0 24)) : Int32) - (hp.2.1 14 a2.toNatClampNeg))) : Int32)), some (.int (hp.2.1 13 a1.toNatClampNeg)), none]) d_M_layHang_134 (by decide) rfl rfl ?_
            refine r_iload d_M_layHang_136 rfl ?_
            refine r_if_eq (tgt := 150) d_M_layHang_138 (by decide) (fun _ => ?_) (fun h => absurd hc_36 h)
            refine r_aload_n (i := 0) d_M_layHang_150 rfl rfl ?_
            refine r_getR (b := 0) (r := 13) d_M_layHang_151 fl_M_46 (by decide) rfl rfl rfl ?_
            refine r_iload_n (i := 2) d_M_layHang_154 rfl rfl ?_
            refine r_iald (b := 13) (v := hp.2.1 13 a2.toNatClampNeg) d_M_layHang_155 (by decide) rfl hi_75 rfl ?_
            refine r_istore (lz := [some (.ref 0), some (.int a1), some (.int a2), some (.int a3), some (.int ((if a3 = 0 then 1 else ((if a3 = 1 then 1 else 0) : Int32)) : Int32)), some (.int ((if ((if a3 = 0 then 1 else ((if a3 = 1 then 1 else 0) : Int32)) : Int32) = 0 then (hp.1 0 25) else (hp.1 0 24)) : Int32)), some (.int (hp.2.1 14 a1.toNatClampNeg)), some (.int (hp.2.1 14 a2.toNatClampNeg)), some (.int ((if (a3 - a3 / 2 * 2) = 0 then (hp.2.1 14 a1.toNatClampNeg) else (((if ((if a3 = 0 then 1 else ((if a3 = 1 then 1 else 0) : Int32)) : Int32) = 0 then (hp.1 0 25) else (hp.1 0 24)) : Int32) - (hp.2.1 14 a1.toNatClampNeg))) : Int32)), some (.int ((if (a3 - a3 / 2 * 2) = 0 then (hp.2.1 14 a2.toNatClampNeg) else (((if ((if a3 = 0 then 1 else ((if a3 = 1 then 1 else 0) : Int32)) : Int32) = 0 then (hp.1 0 25) else (hp.1 0 24)) : Int32) - (hp.2.1 14 a2.toNatClampNeg))) : Int32)), some (.int (hp.2.1 13 a1.toNatClampNeg)), some (.int (hp.2.1 13 a2.toNatClampNeg))]) d_M_layHang_156 (by decide) rfl rfl ?_
            refine r_aload_n (i := 0) d_M_layHang_158 rfl rfl ?_
            refine r_iload d_M_layHang_159 rfl ?_
            refine r_iload d_M_layHang_161 rfl ?_
            refine r_imul d_M_layHang_163 ?_
            refine r_iload d_M_layHang_164 rfl ?_
            refine r_iload d_M_layHang_166 rfl ?_
            refine r_imul d_M_layHang_168 ?_
            refine r_iadd d_M_layHang_169 ?_
            refine r_putI (b := 0) d_M_layHang_170 fp_M_362 ⟨rfl, rfl⟩ (by decide) rfl rfl ?_
            refine r_aload_n (i := 0) d_M_layHang_173 rfl rfl ?_
            refine r_iload d_M_layHang_174 rfl ?_
            refine r_iload d_M_layHang_176 rfl ?_
            refine r_iadd d_M_layHang_178 ?_
            refine r_putI (b := 0) d_M_layHang_179 fp_M_365 ⟨rfl, rfl⟩ (by decide) rfl rfl ?_
            refine r_aload_n (i := 0) d_M_layHang_182 rfl rfl ?_
            refine r_getI (b := 0) (v := (((if (a3 - a3 / 2 * 2) = 0 then (hp.2.1 14 a1.toNatClampNeg) else (((if ((if a3 = 0 then 1 else ((if a3 = 1 then 1 else 0) : Int32)) : Int32) = 0 then (hp.1 0 25) else (hp.1 0 24)) : Int32) - (hp.2.1 14 a1.toNatClampNeg))) : Int32) + ((if (a3 - a3 / 2 * 2) = 0 then (hp.2.1 14 a2.toNatClampNeg) else (((if ((if a3 = 0 then 1 else ((if a3 = 1 then 1 else 0) : Int32)) : Int32) = 0 then (hp.1 0 25) else (hp.1 0 24)) : Int32) - (hp.2.1 14 a2.toNatClampNeg))) : Int32))) d_M_layHang_183 fl_M_365 (by decide) rfl rfl rfl ?_
            refine r_if_le (tgt := 193) d_M_layHang_186 (by decide) (fun hc_186 => ?_) (fun hc_186 => ?_)
            · refine r_iconst d_M_layHang_193 ic_0 ?_
              exact J186 _ (((if_pos hc_186).trans rfl)).symm
            · refine r_iconst d_M_layHang_189 ic_1 ?_
              refine r_goto (tgt := 194) d_M_layHang_190 (by decide) ?_
              exact J186 _ (((if_neg hc_186).trans rfl)).symm
          refine r_istore (lz := [some (.ref 0), some (.int a1), some (.int a2), some (.int a3), some (.int ((if a3 = 0 then 1 else ((if a3 = 1 then 1 else 0) : Int32)) : Int32)), some (.int ((if ((if a3 = 0 then 1 else ((if a3 = 1 then 1 else 0) : Int32)) : Int32) = 0 then (hp.1 0 25) else (hp.1 0 24)) : Int32)), some (.int (hp.2.1 14 a1.toNatClampNeg)), some (.int (hp.2.1 14 a2.toNatClampNeg)), some (.int ((if (a3 - a3 / 2 * 2) = 0 then (hp.2.1 14 a1.toNatClampNeg) else (((if ((if a3 = 0 then 1 else ((if a3 = 1 then 1 else 0) : Int32)) : Int32) = 0 then (hp.1 0 25) else (hp.1 0 24)) : Int32) - (hp.2.1 14 a1.toNatClampNeg))) : Int32)), none, none, none]) d_M_layHang_94 (by decide) rfl rfl ?_
          refine r_iload_n (i := 3) d_M_layHang_96 rfl rfl ?_
          refine r_iconst d_M_layHang_97 ic_2 ?_
          refine r_irem d_M_layHang_98 (by decide) ?_
          refine r_if_ne (tgt := 107) d_M_layHang_99 (by decide) (fun hc_99 => ?_) (fun hc_99 => ?_)
          · refine r_iload d_M_layHang_107 rfl ?_
            refine r_iload d_M_layHang_109 rfl ?_
            refine r_isub d_M_layHang_111 ?_
            exact J99 _ (((if_neg hc_99).trans rfl)).symm
          · refine r_iload d_M_layHang_102 rfl ?_
            refine r_goto (tgt := 112) d_M_layHang_104 (by decide) ?_
            exact J99 _ (((if_pos hc_99).trans rfl)).symm
        refine r_istore (lz := [some (.ref 0), some (.int a1), some (.int a2), some (.int a3), some (.int ((if a3 = 0 then 1 else ((if a3 = 1 then 1 else 0) : Int32)) : Int32)), some (.int ((if ((if a3 = 0 then 1 else ((if a3 = 1 then 1 else 0) : Int32)) : Int32) = 0 then (hp.1 0 25) else (hp.1 0 24)) : Int32)), some (.int (hp.2.1 14 a1.toNatClampNeg)), some (.int (hp.2.1 14 a2.toNatClampNeg)), none, none, none, none]) d_M_layHang_76 (by decide) rfl rfl ?_
        refine r_iload_n (i := 3) d_M_layHang_78 rfl rfl ?_
        refine r_iconst d_M_layHang_79 ic_2 ?_
        refine r_irem d_M_layHang_80 (by decide) ?_
        refine r_if_ne (tgt := 89) d_M_layHang_81 (by decide) (fun hc_81 => ?_) (fun hc_81 => ?_)
        · refine r_iload d_M_layHang_89 rfl ?_
          refine r_iload d_M_layHang_91 rfl ?_
          refine r_isub d_M_layHang_93 ?_
          exact J81 _ (((if_neg hc_81).trans rfl)).symm
        · refine r_iload d_M_layHang_84 rfl ?_
          refine r_goto (tgt := 94) d_M_layHang_86 (by decide) ?_
          exact J81 _ (((if_pos hc_81).trans rfl)).symm
      · replace H := H.2 hc_36
        refine r_aload_n (i := 0) d_M_layHang_39 rfl rfl ?_
        refine r_getR (b := 0) (r := 13) d_M_layHang_40 fl_M_46 (by decide) rfl rfl rfl ?_
        refine r_iload_n (i := 1) d_M_layHang_43 rfl rfl ?_
        obtain ⟨hi_44, H⟩ := H
        refine r_iald (b := 13) (v := hp.2.1 13 a1.toNatClampNeg) d_M_layHang_44 (by decide) rfl hi_44 rfl ?_
        refine r_goto (tgt := 54) d_M_layHang_45 (by decide) ?_
        refine r_istore (lz := [some (.ref 0), some (.int a1), some (.int a2), some (.int a3), some (.int ((if a3 = 0 then 1 else ((if a3 = 1 then 1 else 0) : Int32)) : Int32)), some (.int ((if ((if a3 = 0 then 1 else ((if a3 = 1 then 1 else 0) : Int32)) : Int32) = 0 then (hp.1 0 25) else (hp.1 0 24)) : Int32)), some (.int (hp.2.1 13 a1.toNatClampNeg)), none, none, none, none, none]) d_M_layHang_54 (by decide) rfl rfl ?_
        refine r_iload d_M_layHang_56 rfl ?_
        refine r_if_eq (tgt := 70) d_M_layHang_58 (by decide) (fun h => absurd h hc_36) (fun _ => ?_)
        refine r_aload_n (i := 0) d_M_layHang_61 rfl rfl ?_
        refine r_getR (b := 0) (r := 13) d_M_layHang_62 fl_M_46 (by decide) rfl rfl rfl ?_
        refine r_iload_n (i := 2) d_M_layHang_65 rfl rfl ?_
        obtain ⟨hi_66, H⟩ := H
        refine r_iald (b := 13) (v := hp.2.1 13 a2.toNatClampNeg) d_M_layHang_66 (by decide) rfl hi_66 rfl ?_
        have J81 : ∀ (v81_0 : Int32), v81_0 = ((if (a3 - a3 / 2 * 2) = 0 then (hp.2.1 13 a1.toNatClampNeg) else (((if ((if a3 = 0 then 1 else ((if a3 = 1 then 1 else 0) : Int32)) : Int32) = 0 then (hp.1 0 25) else (hp.1 0 24)) : Int32) - (hp.2.1 13 a1.toNatClampNeg))) : Int32) → Rn wM G 1 q_M_layHang 94 [some (.ref 0), some (.int a1), some (.int a2), some (.int a3), some (.int ((if a3 = 0 then 1 else ((if a3 = 1 then 1 else 0) : Int32)) : Int32)), some (.int ((if ((if a3 = 0 then 1 else ((if a3 = 1 then 1 else 0) : Int32)) : Int32) = 0 then (hp.1 0 25) else (hp.1 0 24)) : Int32)), some (.int (hp.2.1 13 a1.toNatClampNeg)), some (.int (hp.2.1 13 a2.toNatClampNeg)), none, none, none, none] [.int v81_0] hp (rI F) := by
          rintro _ rfl
          have J99 : ∀ (v99_0 : Int32), v99_0 = ((if (a3 - a3 / 2 * 2) = 0 then (hp.2.1 13 a2.toNatClampNeg) else (((if ((if a3 = 0 then 1 else ((if a3 = 1 then 1 else 0) : Int32)) : Int32) = 0 then (hp.1 0 25) else (hp.1 0 24)) : Int32) - (hp.2.1 13 a2.toNatClampNeg))) : Int32) → Rn wM G 1 q_M_layHang 112 [some (.ref 0), some (.int a1), some (.int a2), some (.int a3), some (.int ((if a3 = 0 then 1 else ((if a3 = 1 then 1 else 0) : Int32)) : Int32)), some (.int ((if ((if a3 = 0 then 1 else ((if a3 = 1 then 1 else 0) : Int32)) : Int32) = 0 then (hp.1 0 25) else (hp.1 0 24)) : Int32)), some (.int (hp.2.1 13 a1.toNatClampNeg)), some (.int (hp.2.1 13 a2.toNatClampNeg)), some (.int ((if (a3 - a3 / 2 * 2) = 0 then (hp.2.1 13 a1.toNatClampNeg) else (((if ((if a3 = 0 then 1 else ((if a3 = 1 then 1 else 0) : Int32)) : Int32) = 0 then (hp.1 0 25) else (hp.1 0 24)) : Int32) - (hp.2.1 13 a1.toNatClampNeg))) : Int32)), none, none, none] [.int v99_0] hp (rI F) := by
            rintro _ rfl
            have J186 : ∀ (v186_0 : Int32), v186_0 = ((if (((if (a3 - a3 / 2 * 2) = 0 then (hp.2.1 13 a1.toNatClampNeg) else (((if ((if a3 = 0 then 1 else ((if a3 = 1 then 1 else 0) : Int32)) : Int32) = 0 then (hp.1 0 25) else (hp.1 0 24)) : Int32) - (hp.2.1 13 a1.toNatClampNeg))) : Int32) + ((if (a3 - a3 / 2 * 2) = 0 then (hp.2.1 13 a2.toNatClampNeg) else (((if ((if a3 = 0 then 1 else ((if a3 = 1 then 1 else 0) : Int32)) : Int32) = 0 then (hp.1 0 25) else (hp.1 0 24)) : Int32) - (hp.2.1 13 a2.toNatClampNeg))) : Int32)) ≤ 0 then 0 else 1) : Int32) → Rn wM G 1 q_M_layHang 194 [some (.ref 0), some (.int a1), some (.int a2), some (.int a3), some (.int ((if a3 = 0 then 1 else ((if a3 = 1 then 1 else 0) : Int32)) : Int32)), some (.int ((if ((if a3 = 0 then 1 else ((if a3 = 1 then 1 else 0) : Int32)) : Int32) = 0 then (hp.1 0 25) else (hp.1 0 24)) : Int32)), some (.int (hp.2.1 13 a1.toNatClampNeg)), some (.int (hp.2.1 13 a2.toNatClampNeg)), some (.int ((if (a3 - a3 / 2 * 2) = 0 then (hp.2.1 13 a1.toNatClampNeg) else (((if ((if a3 = 0 then 1 else ((if a3 = 1 then 1 else 0) : Int32)) : Int32) = 0 then (hp.1 0 25) else (hp.1 0 24)) : Int32) - (hp.2.1 13 a1.toNatClampNeg))) : Int32)), some (.int ((if (a3 - a3 / 2 * 2) = 0 then (hp.2.1 13 a2.toNatClampNeg) else (((if ((if a3 = 0 then 1 else ((if a3 = 1 then 1 else 0) : Int32)) : Int32) = 0 then (hp.1 0 25) else (hp.1 0 24)) : Int32) - (hp.2.1 13 a2.toNatClampNeg))) : Int32)), some (.int (hp.2.1 14 a1.toNatClampNeg)), some (.int (hp.2.1 14 a2.toNatClampNeg))] [.int v186_0] (rx_pf (rx_pf hp 0 35 (((hp.2.1 14 a1.toNatClampNeg) * ((if (a3 - a3 / 2 * 2) = 0 then (hp.2.1 13 a2.toNatClampNeg) else (((if ((if a3 = 0 then 1 else ((if a3 = 1 then 1 else 0) : Int32)) : Int32) = 0 then (hp.1 0 25) else (hp.1 0 24)) : Int32) - (hp.2.1 13 a2.toNatClampNeg))) : Int32)) + ((hp.2.1 14 a2.toNatClampNeg) * ((if (a3 - a3 / 2 * 2) = 0 then (hp.2.1 13 a1.toNatClampNeg) else (((if ((if a3 = 0 then 1 else ((if a3 = 1 then 1 else 0) : Int32)) : Int32) = 0 then (hp.1 0 25) else (hp.1 0 24)) : Int32) - (hp.2.1 13 a1.toNatClampNeg))) : Int32)))) 0 36 (((if (a3 - a3 / 2 * 2) = 0 then (hp.2.1 13 a1.toNatClampNeg) else (((if ((if a3 = 0 then 1 else ((if a3 = 1 then 1 else 0) : Int32)) : Int32) = 0 then (hp.1 0 25) else (hp.1 0 24)) : Int32) - (hp.2.1 13 a1.toNatClampNeg))) : Int32) + ((if (a3 - a3 / 2 * 2) = 0 then (hp.2.1 13 a2.toNatClampNeg) else (((if ((if a3 = 0 then 1 else ((if a3 = 1 then 1 else 0) : Int32)) : Int32) = 0 then (hp.1 0 25) else (hp.1 0 24)) : Int32) - (hp.2.1 13 a2.toNatClampNeg))) : Int32))) (rI F) := by
              rintro _ rfl
              exact rZ_ret d_M_layHang_194 rfl (rb_ite (Or.inl rfl) (Or.inr rfl)) H
            refine r_istore (lz := [some (.ref 0), some (.int a1), some (.int a2), some (.int a3), some (.int ((if a3 = 0 then 1 else ((if a3 = 1 then 1 else 0) : Int32)) : Int32)), some (.int ((if ((if a3 = 0 then 1 else ((if a3 = 1 then 1 else 0) : Int32)) : Int32) = 0 then (hp.1 0 25) else (hp.1 0 24)) : Int32)), some (.int (hp.2.1 13 a1.toNatClampNeg)), some (.int (hp.2.1 13 a2.toNatClampNeg)), some (.int ((if (a3 - a3 / 2 * 2) = 0 then (hp.2.1 13 a1.toNatClampNeg) else (((if ((if a3 = 0 then 1 else ((if a3 = 1 then 1 else 0) : Int32)) : Int32) = 0 then (hp.1 0 25) else (hp.1 0 24)) : Int32) - (hp.2.1 13 a1.toNatClampNeg))) : Int32)), some (.int ((if (a3 - a3 / 2 * 2) = 0 then (hp.2.1 13 a2.toNatClampNeg) else (((if ((if a3 = 0 then 1 else ((if a3 = 1 then 1 else 0) : Int32)) : Int32) = 0 then (hp.1 0 25) else (hp.1 0 24)) : Int32) - (hp.2.1 13 a2.toNatClampNeg))) : Int32)), none, none]) d_M_layHang_112 (by decide) rfl rfl ?_
            refine r_iload d_M_layHang_114 rfl ?_
            refine r_if_eq (tgt := 128) d_M_layHang_116 (by decide) (fun h => absurd h hc_36) (fun _ => ?_)
            refine r_aload_n (i := 0) d_M_layHang_119 rfl rfl ?_
            refine r_getR (b := 0) (r := 14) d_M_layHang_120 fl_M_49 (by decide) rfl rfl rfl ?_
            refine r_iload_n (i := 1) d_M_layHang_123 rfl rfl ?_
            refine r_iald (b := 14) (v := hp.2.1 14 a1.toNatClampNeg) d_M_layHang_124 (by decide) rfl hi_44 rfl ?_
            refine r_goto (tgt := 134) d_M_layHang_125 (by decide) ?_
            refine r_istore (lz := [some (.ref 0), some (.int a1), some (.int a2), some (.int a3), some (.int ((if a3 = 0 then 1 else ((if a3 = 1 then 1 else 0) : Int32)) : Int32)), some (.int ((if ((if a3 = 0 then 1 else ((if a3 = 1 then 1 else 0) : Int32)) : Int32) = 0 then (hp.1 0 25) else (hp.1 0 24)) : Int32)), some (.int (hp.2.1 13 a1.toNatClampNeg)), some (.int (hp.2.1 13 a2.toNatClampNeg)), some (.int ((if (a3 - a3 / 2 * 2) = 0 then (hp.2.1 13 a1.toNatClampNeg) else (((if ((if a3 = 0 then 1 else ((if a3 = 1 then 1 else 0) : Int32)) : Int32) = 0 then (hp.1 0 25) else (hp.1 0 24)) : Int32) - (hp.2.1 13 a1.toNatClampNeg))) : Int32)), some (.int ((if (a3 - a3 / 2 * 2) = 0 then (hp.2.1 13 a2.toNatClampNeg) else (((if ((if a3 = 0 then 1 else ((if a3 = 1 then 1 else 0) : Int32)) : Int32) = 0 then (hp.1 0 25) else (hp.1 0 24)) : Int32) - (hp.2.1 13 a2.toNatClampNeg))) : Int32)), some (.int (hp.2.1 14 a1.toNatClampNeg)), none]) d_M_layHang_134 (by decide) rfl rfl ?_
            refine r_iload d_M_layHang_136 rfl ?_
            refine r_if_eq (tgt := 150) d_M_layHang_138 (by decide) (fun h => absurd h hc_36) (fun _ => ?_)
            refine r_aload_n (i := 0) d_M_layHang_141 rfl rfl ?_
            refine r_getR (b := 0) (r := 14) d_M_layHang_142 fl_M_49 (by decide) rfl rfl rfl ?_
            refine r_iload_n (i := 2) d_M_layHang_145 rfl rfl ?_
            refine r_iald (b := 14) (v := hp.2.1 14 a2.toNatClampNeg) d_M_layHang_146 (by decide) rfl hi_66 rfl ?_
            refine r_goto (tgt := 156) d_M_layHang_147 (by decide) ?_
            refine r_istore (lz := [some (.ref 0), some (.int a1), some (.int a2), some (.int a3), some (.int ((if a3 = 0 then 1 else ((if a3 = 1 then 1 else 0) : Int32)) : Int32)), some (.int ((if ((if a3 = 0 then 1 else ((if a3 = 1 then 1 else 0) : Int32)) : Int32) = 0 then (hp.1 0 25) else (hp.1 0 24)) : Int32)), some (.int (hp.2.1 13 a1.toNatClampNeg)), some (.int (hp.2.1 13 a2.toNatClampNeg)), some (.int ((if (a3 - a3 / 2 * 2) = 0 then (hp.2.1 13 a1.toNatClampNeg) else (((if ((if a3 = 0 then 1 else ((if a3 = 1 then 1 else 0) : Int32)) : Int32) = 0 then (hp.1 0 25) else (hp.1 0 24)) : Int32) - (hp.2.1 13 a1.toNatClampNeg))) : Int32)), some (.int ((if (a3 - a3 / 2 * 2) = 0 then (hp.2.1 13 a2.toNatClampNeg) else (((if ((if a3 = 0 then 1 else ((if a3 = 1 then 1 else 0) : Int32)) : Int32) = 0 then (hp.1 0 25) else (hp.1 0 24)) : Int32) - (hp.2.1 13 a2.toNatClampNeg))) : Int32)), some (.int (hp.2.1 14 a1.toNatClampNeg)), some (.int (hp.2.1 14 a2.toNatClampNeg))]) d_M_layHang_156 (by decide) rfl rfl ?_
            refine r_aload_n (i := 0) d_M_layHang_158 rfl rfl ?_
            refine r_iload d_M_layHang_159 rfl ?_
            refine r_iload d_M_layHang_161 rfl ?_
            refine r_imul d_M_layHang_163 ?_
            refine r_iload d_M_layHang_164 rfl ?_
            refine r_iload d_M_layHang_166 rfl ?_
            refine r_imul d_M_layHang_168 ?_
            refine r_iadd d_M_layHang_169 ?_
            refine r_putI (b := 0) d_M_layHang_170 fp_M_362 ⟨rfl, rfl⟩ (by decide) rfl rfl ?_
            refine r_aload_n (i := 0) d_M_layHang_173 rfl rfl ?_
            refine r_iload d_M_layHang_174 rfl ?_
            refine r_iload d_M_layHang_176 rfl ?_
            refine r_iadd d_M_layHang_178 ?_
            refine r_putI (b := 0) d_M_layHang_179 fp_M_365 ⟨rfl, rfl⟩ (by decide) rfl rfl ?_
            refine r_aload_n (i := 0) d_M_layHang_182 rfl rfl ?_
            refine r_getI (b := 0) (v := (((if (a3 - a3 / 2 * 2) = 0 then (hp.2.1 13 a1.toNatClampNeg) else (((if ((if a3 = 0 then 1 else ((if a3 = 1 then 1 else 0) : Int32)) : Int32) = 0 then (hp.1 0 25) else (hp.1 0 24)) : Int32) - (hp.2.1 13 a1.toNatClampNeg))) : Int32) + ((if (a3 - a3 / 2 * 2) = 0 then (hp.2.1 13 a2.toNatClampNeg) else (((if ((if a3 = 0 then 1 else ((if a3 = 1 then 1 else 0) : Int32)) : Int32) = 0 then (hp.1 0 25) else (hp.1 0 24)) : Int32) - (hp.2.1 13 a2.toNatClampNeg))) : Int32))) d_M_layHang_183 fl_M_365 (by decide) rfl rfl rfl ?_
            refine r_if_le (tgt := 193) d_M_layHang_186 (by decide) (fun hc_186 => ?_) (fun hc_186 => ?_)
            · refine r_iconst d_M_layHang_193 ic_0 ?_
              exact J186 _ (((if_pos hc_186).trans rfl)).symm
            · refine r_iconst d_M_layHang_189 ic_1 ?_
              refine r_goto (tgt := 194) d_M_layHang_190 (by decide) ?_
              exact J186 _ (((if_neg hc_186).trans rfl)).symm
          refine r_istore (lz := [some (.ref 0), some (.int a1), some (.int a2), some (.int a3), some (.int ((if a3 = 0 then 1 else ((if a3 = 1 then 1 else 0) : Int32)) : Int32)), some (.int ((if ((if a3 = 0 then 1 else ((if a3 = 1 then 1 else 0) : Int32)) : Int32) = 0 then (hp.1 0 25) else (hp.1 0 24)) : Int32)), some (.int (hp.2.1 13 a1.toNatClampNeg)), some (.int (hp.2.1 13 a2.toNatClampNeg)), some (.int ((if (a3 - a3 / 2 * 2) = 0 then (hp.2.1 13 a1.toNatClampNeg) else (((if ((if a3 = 0 then 1 else ((if a3 = 1 then 1 else 0) : Int32)) : Int32) = 0 then (hp.1 0 25) else (hp.1 0 24)) : Int32) - (hp.2.1 13 a1.toNatClampNeg))) : Int32)), none, none, none]) d_M_layHang_94 (by decide) rfl rfl ?_
          refine r_iload_n (i := 3) d_M_layHang_96 rfl rfl ?_
          refine r_iconst d_M_layHang_97 ic_2 ?_
          refine r_irem d_M_layHang_98 (by decide) ?_
          refine r_if_ne (tgt := 107) d_M_layHang_99 (by decide) (fun hc_99 => ?_) (fun hc_99 => ?_)
          · refine r_iload d_M_layHang_107 rfl ?_
            refine r_iload d_M_layHang_109 rfl ?_
            refine r_isub d_M_layHang_111 ?_
            exact J99 _ (((if_neg hc_99).trans rfl)).symm
          · refine r_iload d_M_layHang_102 rfl ?_
            refine r_goto (tgt := 112) d_M_layHang_104 (by decide) ?_
            exact J99 _ (((if_pos hc_99).trans rfl)).symm
        refine r_goto (tgt := 76) d_M_layHang_67 (by decide) ?_
        refine r_istore (lz := [some (.ref 0), some (.int a1), some (.int a2), some (.int a3), some (.int ((if a3 = 0 then 1 else ((if a3 = 1 then 1 else 0) : Int32)) : Int32)), some (.int ((if ((if a3 = 0 then 1 else ((if a3 = 1 then 1 else 0) : Int32)) : Int32) = 0 then (hp.1 0 25) else (hp.1 0 24)) : Int32)), some (.int (hp.2.1 13 a1.toNatClampNeg)), some (.int (hp.2.1 13 a2.toNatClampNeg)), none, none, none, none]) d_M_layHang_76 (by decide) rfl rfl ?_
        refine r_iload_n (i := 3) d_M_layHang_78 rfl rfl ?_
        refine r_iconst d_M_layHang_79 ic_2 ?_
        refine r_irem d_M_layHang_80 (by decide) ?_
        refine r_if_ne (tgt := 89) d_M_layHang_81 (by decide) (fun hc_81 => ?_) (fun hc_81 => ?_)
        · refine r_iload d_M_layHang_89 rfl ?_
          refine r_iload d_M_layHang_91 rfl ?_
          refine r_isub d_M_layHang_93 ?_
          exact J81 _ (((if_neg hc_81).trans rfl)).symm
        · refine r_iload d_M_layHang_84 rfl ?_
          refine r_goto (tgt := 94) d_M_layHang_86 (by decide) ?_
          exact J81 _ (((if_pos hc_81).trans rfl)).symm
    refine r_istore (lz := [some (.ref 0), some (.int a1), some (.int a2), some (.int a3), some (.int ((if a3 = 0 then 1 else ((if a3 = 1 then 1 else 0) : Int32)) : Int32)), none, none, none, none, none, none, none]) d_M_layHang_14 (by decide) rfl rfl ?_
    refine r_iload d_M_layHang_16 rfl ?_
    refine r_if_eq (tgt := 28) d_M_layHang_18 (by decide) (fun hc_18 => ?_) (fun hc_18 => ?_)
    · refine r_aload_n (i := 0) d_M_layHang_28 rfl rfl ?_
      refine r_getI (b := 0) (v := hp.1 0 25) d_M_layHang_29 fl_M_242 (by decide) rfl rfl rfl ?_
      exact J18 _ (((if_pos hc_18).trans rfl)).symm
    · refine r_aload_n (i := 0) d_M_layHang_21 rfl rfl ?_
      refine r_getI (b := 0) (v := hp.1 0 24) d_M_layHang_22 fl_M_239 (by decide) rfl rfl rfl ?_
      refine r_goto (tgt := 32) d_M_layHang_25 (by decide) ?_
      exact J18 _ (((if_neg hc_18).trans rfl)).symm
  refine r_iload_n (i := 3) d_M_layHang_0 rfl rfl ?_
  refine r_if_eq (tgt := 9) d_M_layHang_1 (by decide) (fun hc_1 => ?_) (fun hc_1 => ?_)
  · refine r_iconst d_M_layHang_9 ic_1 ?_
    refine r_goto (tgt := 14) d_M_layHang_10 (by decide) ?_
    exact J1 _ (((if_pos hc_1).trans rfl)).symm
  · refine r_iload_n (i := 3) d_M_layHang_4 rfl rfl ?_
    refine r_iconst d_M_layHang_5 ic_1 ?_
    refine r_icmp_ne (tgt := 13) d_M_layHang_6 (by decide) (fun hc_6 => ?_) (fun hc_6 => ?_)
    · refine r_iconst d_M_layHang_13 ic_0 ?_
      exact J1 _ (((if_neg hc_1).trans ((if_neg hc_6).trans rfl))).symm
    · refine r_iconst d_M_layHang_9 ic_1 ?_
      refine r_goto (tgt := 14) d_M_layHang_10 (by decide) ?_
      exact J1 _ (((if_neg hc_1).trans ((if_pos hc_6).trans rfl))).symm
def f_M_layHang (a1 : Int32) (a2 : Int32) (a3 : Int32) (hp : rx_Hp) : Int32 := (if ((if a3 = 0 then 1 else ((if a3 = 1 then 1 else 0) : Int32)) : Int32) = 0 then ((if (((if (a3 - a3 / 2 * 2) = 0 then (hp.2.1 14 a1.toNatClampNeg) else (((if ((if a3 = 0 then 1 else ((if a3 = 1 then 1 else 0) : Int32)) : Int32) = 0 then (hp.1 0 25) else (hp.1 0 24)) : Int32) - (hp.2.1 14 a1.toNatClampNeg))) : Int32) + ((if (a3 - a3 / 2 * 2) = 0 then (hp.2.1 14 a2.toNatClampNeg) else (((if ((if a3 = 0 then 1 else ((if a3 = 1 then 1 else 0) : Int32)) : Int32) = 0 then (hp.1 0 25) else (hp.1 0 24)) : Int32) - (hp.2.1 14 a2.toNatClampNeg))) : Int32)) ≤ 0 then 0 else 1) : Int32) else ((if (((if (a3 - a3 / 2 * 2) = 0 then (hp.2.1 13 a1.toNatClampNeg) else (((if ((if a3 = 0 then 1 else ((if a3 = 1 then 1 else 0) : Int32)) : Int32) = 0 then (hp.1 0 25) else (hp.1 0 24)) : Int32) - (hp.2.1 13 a1.toNatClampNeg))) : Int32) + ((if (a3 - a3 / 2 * 2) = 0 then (hp.2.1 13 a2.toNatClampNeg) else (((if ((if a3 = 0 then 1 else ((if a3 = 1 then 1 else 0) : Int32)) : Int32) = 0 then (hp.1 0 25) else (hp.1 0 24)) : Int32) - (hp.2.1 13 a2.toNatClampNeg))) : Int32)) ≤ 0 then 0 else 1) : Int32))
def g_M_layHang (a1 : Int32) (a2 : Int32) (a3 : Int32) (hp : rx_Hp) : rx_Hp := (if ((if a3 = 0 then 1 else ((if a3 = 1 then 1 else 0) : Int32)) : Int32) = 0 then (rx_pf (rx_pf hp 0 35 (((hp.2.1 13 a1.toNatClampNeg) * ((if (a3 - a3 / 2 * 2) = 0 then (hp.2.1 14 a2.toNatClampNeg) else (((if ((if a3 = 0 then 1 else ((if a3 = 1 then 1 else 0) : Int32)) : Int32) = 0 then (hp.1 0 25) else (hp.1 0 24)) : Int32) - (hp.2.1 14 a2.toNatClampNeg))) : Int32)) + ((hp.2.1 13 a2.toNatClampNeg) * ((if (a3 - a3 / 2 * 2) = 0 then (hp.2.1 14 a1.toNatClampNeg) else (((if ((if a3 = 0 then 1 else ((if a3 = 1 then 1 else 0) : Int32)) : Int32) = 0 then (hp.1 0 25) else (hp.1 0 24)) : Int32) - (hp.2.1 14 a1.toNatClampNeg))) : Int32)))) 0 36 (((if (a3 - a3 / 2 * 2) = 0 then (hp.2.1 14 a1.toNatClampNeg) else (((if ((if a3 = 0 then 1 else ((if a3 = 1 then 1 else 0) : Int32)) : Int32) = 0 then (hp.1 0 25) else (hp.1 0 24)) : Int32) - (hp.2.1 14 a1.toNatClampNeg))) : Int32) + ((if (a3 - a3 / 2 * 2) = 0 then (hp.2.1 14 a2.toNatClampNeg) else (((if ((if a3 = 0 then 1 else ((if a3 = 1 then 1 else 0) : Int32)) : Int32) = 0 then (hp.1 0 25) else (hp.1 0 24)) : Int32) - (hp.2.1 14 a2.toNatClampNeg))) : Int32))) else (rx_pf (rx_pf hp 0 35 (((hp.2.1 14 a1.toNatClampNeg) * ((if (a3 - a3 / 2 * 2) = 0 then (hp.2.1 13 a2.toNatClampNeg) else (((if ((if a3 = 0 then 1 else ((if a3 = 1 then 1 else 0) : Int32)) : Int32) = 0 then (hp.1 0 25) else (hp.1 0 24)) : Int32) - (hp.2.1 13 a2.toNatClampNeg))) : Int32)) + ((hp.2.1 14 a2.toNatClampNeg) * ((if (a3 - a3 / 2 * 2) = 0 then (hp.2.1 13 a1.toNatClampNeg) else (((if ((if a3 = 0 then 1 else ((if a3 = 1 then 1 else 0) : Int32)) : Int32) = 0 then (hp.1 0 25) else (hp.1 0 24)) : Int32) - (hp.2.1 13 a1.toNatClampNeg))) : Int32)))) 0 36 (((if (a3 - a3 / 2 * 2) = 0 then (hp.2.1 13 a1.toNatClampNeg) else (((if ((if a3 = 0 then 1 else ((if a3 = 1 then 1 else 0) : Int32)) : Int32) = 0 then (hp.1 0 25) else (hp.1 0 24)) : Int32) - (hp.2.1 13 a1.toNatClampNeg))) : Int32) + ((if (a3 - a3 / 2 * 2) = 0 then (hp.2.1 13 a2.toNatClampNeg) else (((if ((if a3 = 0 then 1 else ((if a3 = 1 then 1 else 0) : Int32)) : Int32) = 0 then (hp.1 0 25) else (hp.1 0 24)) : Int32) - (hp.2.1 13 a2.toNatClampNeg))) : Int32))))
def p_M_layHang (a1 : Int32) (a2 : Int32) (a3 : Int32) : Prop := (((if a3 = 0 then 1 else ((if a3 = 1 then 1 else 0) : Int32)) : Int32) = 0 → vp_in a1 6 ∧ (vp_in a2 6)) ∧ (¬ ((if a3 = 0 then 1 else ((if a3 = 1 then 1 else 0) : Int32)) : Int32) = 0 → vp_in a1 6 ∧ (vp_in a2 6))
theorem s_M_layHang {G : rx_Gh} {hp : rx_Hp} {F : Int32 → rx_Hp → Prop} (a1 : Int32) (a2 : Int32) (a3 : Int32) (hP : (p_M_layHang a1 a2 a3)) (H0 : F (f_M_layHang a1 a2 a3 hp) (g_M_layHang a1 a2 a3 hp)) : Ev wM G 1 q_M_layHang [.ref 0, .int a1, .int a2, .int a3] hp (rI F) := by
  have H : ∀ v h, v = (f_M_layHang a1 a2 a3 hp) → h = (g_M_layHang a1 a2 a3 hp) → F v h := by rintro _ _ rfl rfl; exact H0
  unfold p_M_layHang at hP
  refine w_M_layHang a1 a2 a3  ?_
  refine ⟨fun hc_36 => ?_, fun hc_36 => ?_⟩
  · refine ⟨(hP.1 hc_36).1, ?_⟩
    refine ⟨(hP.1 hc_36).2, ?_⟩
    exact H _ _ (((if_pos hc_36).trans rfl)).symm (((if_pos hc_36).trans rfl)).symm
  · refine ⟨(hP.2 hc_36).1, ?_⟩
    refine ⟨(hP.2 hc_36).2, ?_⟩
    exact H _ _ (((if_neg hc_36).trans rfl)).symm (((if_neg hc_36).trans rfl)).symm
theorem b_M_layHang (a1 : Int32) (a2 : Int32) (a3 : Int32) (hp : rx_Hp) : (f_M_layHang a1 a2 a3 hp) = 0 ∨ (f_M_layHang a1 a2 a3 hp) = 1 := (rb_ite (rb_ite (Or.inl rfl) (Or.inr rfl)) (rb_ite (Or.inl rfl) (Or.inr rfl)))
set_option maxHeartbeats 4000000 in
set_option maxRecDepth 20000 in
theorem w_M_photo {G : rx_Gh} {hp : rx_Hp} {F : Int32 → rx_Hp → Prop} (a1 : Int32) (a2 : Int32) (H : ((f_M_isBody a1 hp) = 0 → F (-1) hp) ∧ (¬ (f_M_isBody a1 hp) = 0 → ((f_M_in a2 0 99999) = 0 → F (-1) hp) ∧ (¬ (f_M_in a2 0 99999) = 0 → ((hp.1 0 42) = 12 → F (-1) hp) ∧ (¬ (hp.1 0 42) = 12 → vp_in (hp.1 0 42) 12 ∧ (F ((hp.1 0 42) + 1) (rx_pf (rx_pa (rx_pa hp 21 ((hp.1 0 42).toNatClampNeg) a1) 22 ((hp.1 0 42).toNatClampNeg) a2) 0 42 ((hp.1 0 42) + 1))))))) : Ev wM G 3 q_M_photo [.ref 0, .int a1, .int a2] hp (rI F) := by
  refine ev_of rfl (Nat.le_of_ble_eq_true rfl) rfl ?_
  show Rn wM G 3 q_M_photo 0 [some (.ref 0), some (.int a1), some (.int a2)] [] hp (rI F)
  refine r_aload_n (i := 0) d_M_photo_0 rfl rfl ?_
  refine r_iload_n (i := 1) d_M_photo_1 rfl rfl ?_
  refine rk_VI (b := 0) (d' := 2) [.int a1] [] d_M_photo_2 ml_M_267 rfl rfl (by decide) (by decide) rfl rfl (Nat.le_of_ble_eq_true rfl) (s_M_isBody a1 ?_)
  refine r_if_eq (tgt := 28) d_M_photo_5 (by decide) (fun hc_5 => ?_) (fun hc_5 => ?_)
  · replace H := H.1 hc_5
    refine r_iconst d_M_photo_28 ic_m1 ?_
    exact rI_ret d_M_photo_29 rfl H
  · replace H := H.2 hc_5
    refine r_iload_n (i := 2) d_M_photo_8 rfl rfl ?_
    refine r_iconst d_M_photo_9 ic_0 ?_
    refine r_ldcw d_M_photo_10 ck_M_393 ?_
    refine rk_SI (d' := 1) [.int a2, .int 0, .int 99999] [] d_M_photo_13 ml_M_198 rfl rfl (by decide) (Nat.le_of_ble_eq_true rfl) (s_M_in a2 0 99999 ?_)
    refine r_if_eq (tgt := 28) d_M_photo_16 (by decide) (fun hc_16 => ?_) (fun hc_16 => ?_)
    · replace H := H.1 hc_16
      refine r_iconst d_M_photo_28 ic_m1 ?_
      exact rI_ret d_M_photo_29 rfl H
    · replace H := H.2 hc_16
      refine r_aload_n (i := 0) d_M_photo_19 rfl rfl ?_
      refine r_getI (b := 0) (v := hp.1 0 42) d_M_photo_20 fl_M_251 (by decide) rfl rfl rfl ?_
      refine r_bipush d_M_photo_23 bp_12 ?_
      refine r_icmp_ne (tgt := 30) d_M_photo_25 (by decide) (fun hc_25 => ?_) (fun hc_25 => ?_)
      · replace H := H.2 hc_25
        refine r_aload_n (i := 0) d_M_photo_30 rfl rfl ?_
        refine r_getR (b := 0) (r := 21) d_M_photo_31 fl_M_74 (by decide) rfl rfl rfl ?_
        refine r_aload_n (i := 0) d_M_photo_34 rfl rfl ?_
        refine r_getI (b := 0) (v := hp.1 0 42) d_M_photo_35 fl_M_251 (by decide) rfl rfl rfl ?_
        refine r_iload_n (i := 1) d_M_photo_38 rfl rfl ?_
        obtain ⟨hi_39, H⟩ := H
        refine r_iast (b := 21) (i := (hp.1 0 42).toNatClampNeg) d_M_photo_39 (by decide) rfl hi_39 rfl ?_
        refine r_aload_n (i := 0) d_M_photo_40 rfl rfl ?_
        refine r_getR (b := 0) (r := 22) d_M_photo_41 fl_M_77 (by decide) rfl rfl rfl ?_
        refine r_aload_n (i := 0) d_M_photo_44 rfl rfl ?_
        refine r_getI (b := 0) (v := hp.1 0 42) d_M_photo_45 fl_M_251 (by decide) rfl rfl rfl ?_
        refine r_iload_n (i := 2) d_M_photo_48 rfl rfl ?_
        refine r_iast (b := 22) (i := (hp.1 0 42).toNatClampNeg) d_M_photo_49 (by decide) rfl hi_39 rfl ?_
        refine r_aload_n (i := 0) d_M_photo_50 rfl rfl ?_
        refine r_dupr d_M_photo_51 ?_
        refine r_getI (b := 0) (v := hp.1 0 42) d_M_photo_52 fl_M_251 (by decide) rfl rfl rfl ?_
        refine r_iconst d_M_photo_55 ic_1 ?_
        refine r_iadd d_M_photo_56 ?_
        refine r_putI (b := 0) d_M_photo_57 fp_M_251 ⟨rfl, rfl⟩ (by decide) rfl rfl ?_
        refine r_aload_n (i := 0) d_M_photo_60 rfl rfl ?_
        refine r_getI (b := 0) (v := ((hp.1 0 42) + 1)) d_M_photo_61 fl_M_251 (by decide) rfl rfl rfl ?_
        exact rI_ret d_M_photo_64 rfl H
      · replace H := H.1 hc_25
        refine r_iconst d_M_photo_28 ic_m1 ?_
        exact rI_ret d_M_photo_29 rfl H
def f_M_photo (a1 : Int32) (a2 : Int32) (hp : rx_Hp) : Int32 := (if (f_M_isBody a1 hp) = 0 then (-1) else (if (f_M_in a2 0 99999) = 0 then (-1) else (if (hp.1 0 42) = 12 then (-1) else ((hp.1 0 42) + 1))))
def g_M_photo (a1 : Int32) (a2 : Int32) (hp : rx_Hp) : rx_Hp := (if (f_M_isBody a1 hp) = 0 then hp else (if (f_M_in a2 0 99999) = 0 then hp else (if (hp.1 0 42) = 12 then hp else (rx_pf (rx_pa (rx_pa hp 21 ((hp.1 0 42).toNatClampNeg) a1) 22 ((hp.1 0 42).toNatClampNeg) a2) 0 42 ((hp.1 0 42) + 1)))))
def p_M_photo (a1 : Int32) (a2 : Int32) (hp : rx_Hp) : Prop := (¬ (f_M_isBody a1 hp) = 0 → (¬ (f_M_in a2 0 99999) = 0 → (¬ (hp.1 0 42) = 12 → vp_in (hp.1 0 42) 12)))
theorem s_M_photo {G : rx_Gh} {hp : rx_Hp} {F : Int32 → rx_Hp → Prop} (a1 : Int32) (a2 : Int32) (hP : (p_M_photo a1 a2 hp)) (H0 : F (f_M_photo a1 a2 hp) (g_M_photo a1 a2 hp)) : Ev wM G 3 q_M_photo [.ref 0, .int a1, .int a2] hp (rI F) := by
  have H : ∀ v h, v = (f_M_photo a1 a2 hp) → h = (g_M_photo a1 a2 hp) → F v h := by rintro _ _ rfl rfl; exact H0
  unfold p_M_photo at hP
  refine w_M_photo a1 a2  ?_
  refine ⟨fun hc_5 => ?_, fun hc_5 => ?_⟩
  · exact H _ _ (((if_pos hc_5).trans rfl)).symm (((if_pos hc_5).trans rfl)).symm
  · refine ⟨fun hc_16 => ?_, fun hc_16 => ?_⟩
    · exact H _ _ (((if_neg hc_5).trans ((if_pos hc_16).trans rfl))).symm (((if_neg hc_5).trans ((if_pos hc_16).trans rfl))).symm
    · refine ⟨fun hc_25 => ?_, fun hc_25 => ?_⟩
      · exact H _ _ (((if_neg hc_5).trans ((if_neg hc_16).trans ((if_pos hc_25).trans rfl)))).symm (((if_neg hc_5).trans ((if_neg hc_16).trans ((if_pos hc_25).trans rfl)))).symm
      · refine ⟨(((hP hc_5) hc_16) hc_25), ?_⟩
        exact H _ _ (((if_neg hc_5).trans ((if_neg hc_16).trans ((if_neg hc_25).trans rfl)))).symm (((if_neg hc_5).trans ((if_neg hc_16).trans ((if_neg hc_25).trans rfl)))).symm
set_option maxHeartbeats 4000000 in
set_option maxRecDepth 20000 in
theorem w_M_count {G : rx_Gh} {hp : rx_Hp} {F : Int32 → rx_Hp → Prop} (a1 : Int32) (H : (a1 = 0 → F (hp.1 0 23) hp) ∧ (a1 = 1 → F (hp.1 0 24) hp) ∧ (a1 = 2 → F (hp.1 0 25) hp) ∧ (a1 = 3 → F (hp.1 0 26) hp) ∧ (a1 = 4 → F (hp.1 0 27) hp) ∧ (a1 = 5 → F (hp.1 0 13) hp) ∧ (a1 = 6 → F (hp.1 0 2) hp) ∧ (a1 = 7 → F (hp.1 0 28) hp) ∧ (a1 = 8 → F (hp.1 0 42) hp) ∧ (a1 = 9 → F (hp.1 0 30) hp) ∧ (¬ a1 = 0 → ¬ a1 = 1 → ¬ a1 = 2 → ¬ a1 = 3 → ¬ a1 = 4 → ¬ a1 = 5 → ¬ a1 = 6 → ¬ a1 = 7 → ¬ a1 = 8 → ¬ a1 = 9 → F (-100000000) hp)) : Ev wM G 1 q_M_count [.ref 0, .int a1] hp (rI F) := by
  refine ev_of rfl (Nat.le_of_ble_eq_true rfl) rfl ?_
  show Rn wM G 1 q_M_count 0 [some (.ref 0), some (.int a1)] [] hp (rI F)
  refine r_iload_n (i := 1) d_M_count_0 rfl rfl ?_
  by_cases hs_1_0 : a1 = 0
  · replace H := H.1 hs_1_0
    refine r_tabIn (off := 55) (tgt := 56) d_M_count_1 (by rw [hs_1_0]; decide) (by rw [hs_1_0]; decide) (by rw [hs_1_0]; decide) (by decide) ?_
    refine r_aload_n (i := 0) d_M_count_56 rfl rfl ?_
    refine r_getI (b := 0) (v := hp.1 0 23) d_M_count_57 fl_M_236 (by decide) rfl rfl rfl ?_
    exact rI_ret d_M_count_60 rfl H
  by_cases hs_1_1 : a1 = 1
  · replace H := H.2.1 hs_1_1
    refine r_tabIn (off := 60) (tgt := 61) d_M_count_1 (by rw [hs_1_1]; decide) (by rw [hs_1_1]; decide) (by rw [hs_1_1]; decide) (by decide) ?_
    refine r_aload_n (i := 0) d_M_count_61 rfl rfl ?_
    refine r_getI (b := 0) (v := hp.1 0 24) d_M_count_62 fl_M_239 (by decide) rfl rfl rfl ?_
    exact rI_ret d_M_count_65 rfl H
  by_cases hs_1_2 : a1 = 2
  · replace H := H.2.2.1 hs_1_2
    refine r_tabIn (off := 65) (tgt := 66) d_M_count_1 (by rw [hs_1_2]; decide) (by rw [hs_1_2]; decide) (by rw [hs_1_2]; decide) (by decide) ?_
    refine r_aload_n (i := 0) d_M_count_66 rfl rfl ?_
    refine r_getI (b := 0) (v := hp.1 0 25) d_M_count_67 fl_M_242 (by decide) rfl rfl rfl ?_
    exact rI_ret d_M_count_70 rfl H
  by_cases hs_1_3 : a1 = 3
  · replace H := H.2.2.2.1 hs_1_3
    refine r_tabIn (off := 70) (tgt := 71) d_M_count_1 (by rw [hs_1_3]; decide) (by rw [hs_1_3]; decide) (by rw [hs_1_3]; decide) (by decide) ?_
    refine r_aload_n (i := 0) d_M_count_71 rfl rfl ?_
    refine r_getI (b := 0) (v := hp.1 0 26) d_M_count_72 fl_M_245 (by decide) rfl rfl rfl ?_
    exact rI_ret d_M_count_75 rfl H
  by_cases hs_1_4 : a1 = 4
  · replace H := H.2.2.2.2.1 hs_1_4
    refine r_tabIn (off := 75) (tgt := 76) d_M_count_1 (by rw [hs_1_4]; decide) (by rw [hs_1_4]; decide) (by rw [hs_1_4]; decide) (by decide) ?_
    refine r_aload_n (i := 0) d_M_count_76 rfl rfl ?_
    refine r_getI (b := 0) (v := hp.1 0 27) d_M_count_77 fl_M_248 (by decide) rfl rfl rfl ?_
    exact rI_ret d_M_count_80 rfl H
  by_cases hs_1_5 : a1 = 5
  · replace H := H.2.2.2.2.2.1 hs_1_5
    refine r_tabIn (off := 80) (tgt := 81) d_M_count_1 (by rw [hs_1_5]; decide) (by rw [hs_1_5]; decide) (by rw [hs_1_5]; decide) (by decide) ?_
    refine r_aload_n (i := 0) d_M_count_81 rfl rfl ?_
    refine r_getI (b := 0) (v := hp.1 0 13) d_M_count_82 fl_M_264 (by decide) rfl rfl rfl ?_
    exact rI_ret d_M_count_85 rfl H
  by_cases hs_1_6 : a1 = 6
  · replace H := H.2.2.2.2.2.2.1 hs_1_6
    refine r_tabIn (off := 85) (tgt := 86) d_M_count_1 (by rw [hs_1_6]; decide) (by rw [hs_1_6]; decide) (by rw [hs_1_6]; decide) (by decide) ?_
    refine r_aload_n (i := 0) d_M_count_86 rfl rfl ?_
    refine r_getI (b := 0) (v := hp.1 0 2) d_M_count_87 fl_M_90 (by decide) rfl rfl rfl ?_
    exact rI_ret d_M_count_90 rfl H
  by_cases hs_1_7 : a1 = 7
  · replace H := H.2.2.2.2.2.2.2.1 hs_1_7
    refine r_tabIn (off := 90) (tgt := 91) d_M_count_1 (by rw [hs_1_7]; decide) (by rw [hs_1_7]; decide) (by rw [hs_1_7]; decide) (by decide) ?_
    refine r_aload_n (i := 0) d_M_count_91 rfl rfl ?_
    refine r_getI (b := 0) (v := hp.1 0 28) d_M_count_92 fl_M_55 (by decide) rfl rfl rfl ?_
    exact rI_ret d_M_count_95 rfl H
  by_cases hs_1_8 : a1 = 8
  · replace H := H.2.2.2.2.2.2.2.2.1 hs_1_8
    refine r_tabIn (off := 95) (tgt := 96) d_M_count_1 (by rw [hs_1_8]; decide) (by rw [hs_1_8]; decide) (by rw [hs_1_8]; decide) (by decide) ?_
    refine r_aload_n (i := 0) d_M_count_96 rfl rfl ?_
    refine r_getI (b := 0) (v := hp.1 0 42) d_M_count_97 fl_M_251 (by decide) rfl rfl rfl ?_
    exact rI_ret d_M_count_100 rfl H
  by_cases hs_1_9 : a1 = 9
  · replace H := H.2.2.2.2.2.2.2.2.2.1 hs_1_9
    refine r_tabIn (off := 100) (tgt := 101) d_M_count_1 (by rw [hs_1_9]; decide) (by rw [hs_1_9]; decide) (by rw [hs_1_9]; decide) (by decide) ?_
    refine r_aload_n (i := 0) d_M_count_101 rfl rfl ?_
    refine r_getI (b := 0) (v := hp.1 0 30) d_M_count_102 fl_M_254 (by decide) rfl rfl rfl ?_
    exact rI_ret d_M_count_105 rfl H
  replace H := H.2.2.2.2.2.2.2.2.2.2 hs_1_0 hs_1_1 hs_1_2 hs_1_3 hs_1_4 hs_1_5 hs_1_6 hs_1_7 hs_1_8 hs_1_9
  refine r_tabOut (tgt := 106) d_M_count_1 (rx_tab (lo := 0) (hi := 9) (by decide) (by decide) (fun i h1 h2 => ?_)) (by decide) ?_
  · have hz : i = 0 ∨ i = 1 ∨ i = 2 ∨ i = 3 ∨ i = 4 ∨ i = 5 ∨ i = 6 ∨ i = 7 ∨ i = 8 ∨ i = 9 := by omega
    rcases hz with rfl | rfl | rfl | rfl | rfl | rfl | rfl | rfl | rfl | rfl
    · exact hs_1_0
    · exact hs_1_1
    · exact hs_1_2
    · exact hs_1_3
    · exact hs_1_4
    · exact hs_1_5
    · exact hs_1_6
    · exact hs_1_7
    · exact hs_1_8
    · exact hs_1_9
  refine r_ldcw d_M_count_106 ck_M_308 ?_
  exact rI_ret d_M_count_109 rfl H
def f_M_count (a1 : Int32) (hp : rx_Hp) : Int32 := (if a1 = 0 then (hp.1 0 23) else (if a1 = 1 then (hp.1 0 24) else (if a1 = 2 then (hp.1 0 25) else (if a1 = 3 then (hp.1 0 26) else (if a1 = 4 then (hp.1 0 27) else (if a1 = 5 then (hp.1 0 13) else (if a1 = 6 then (hp.1 0 2) else (if a1 = 7 then (hp.1 0 28) else (if a1 = 8 then (hp.1 0 42) else (if a1 = 9 then (hp.1 0 30) else (-100000000)))))))))))
theorem s_M_count {G : rx_Gh} {hp : rx_Hp} {F : Int32 → rx_Hp → Prop} (a1 : Int32) (H0 : F (f_M_count a1 hp) hp) : Ev wM G 1 q_M_count [.ref 0, .int a1] hp (rI F) := by
  have H : ∀ v h, v = (f_M_count a1 hp) → h = hp → F v h := by rintro _ _ rfl rfl; exact H0
  refine w_M_count a1  ?_
  refine ⟨fun s0 => ?_, fun s1 => ?_, fun s2 => ?_, fun s3 => ?_, fun s4 => ?_, fun s5 => ?_, fun s6 => ?_, fun s7 => ?_, fun s8 => ?_, fun s9 => ?_, fun s0 s1 s2 s3 s4 s5 s6 s7 s8 s9 => ?_⟩
  · exact H _ _ (((if_pos s0).trans rfl)).symm (rfl).symm
  · exact H _ _ (((if_neg (rx_ne s1 (by decide))).trans ((if_pos s1).trans rfl))).symm (rfl).symm
  · exact H _ _ (((if_neg (rx_ne s2 (by decide))).trans ((if_neg (rx_ne s2 (by decide))).trans ((if_pos s2).trans rfl)))).symm (rfl).symm
  · exact H _ _ (((if_neg (rx_ne s3 (by decide))).trans ((if_neg (rx_ne s3 (by decide))).trans ((if_neg (rx_ne s3 (by decide))).trans ((if_pos s3).trans rfl))))).symm (rfl).symm
  · exact H _ _ (((if_neg (rx_ne s4 (by decide))).trans ((if_neg (rx_ne s4 (by decide))).trans ((if_neg (rx_ne s4 (by decide))).trans ((if_neg (rx_ne s4 (by decide))).trans ((if_pos s4).trans rfl)))))).symm (rfl).symm
  · exact H _ _ (((if_neg (rx_ne s5 (by decide))).trans ((if_neg (rx_ne s5 (by decide))).trans ((if_neg (rx_ne s5 (by decide))).trans ((if_neg (rx_ne s5 (by decide))).trans ((if_neg (rx_ne s5 (by decide))).trans ((if_pos s5).trans rfl))))))).symm (rfl).symm
  · exact H _ _ (((if_neg (rx_ne s6 (by decide))).trans ((if_neg (rx_ne s6 (by decide))).trans ((if_neg (rx_ne s6 (by decide))).trans ((if_neg (rx_ne s6 (by decide))).trans ((if_neg (rx_ne s6 (by decide))).trans ((if_neg (rx_ne s6 (by decide))).trans ((if_pos s6).trans rfl)))))))).symm (rfl).symm
  · exact H _ _ (((if_neg (rx_ne s7 (by decide))).trans ((if_neg (rx_ne s7 (by decide))).trans ((if_neg (rx_ne s7 (by decide))).trans ((if_neg (rx_ne s7 (by decide))).trans ((if_neg (rx_ne s7 (by decide))).trans ((if_neg (rx_ne s7 (by decide))).trans ((if_neg (rx_ne s7 (by decide))).trans ((if_pos s7).trans rfl))))))))).symm (rfl).symm
  · exact H _ _ (((if_neg (rx_ne s8 (by decide))).trans ((if_neg (rx_ne s8 (by decide))).trans ((if_neg (rx_ne s8 (by decide))).trans ((if_neg (rx_ne s8 (by decide))).trans ((if_neg (rx_ne s8 (by decide))).trans ((if_neg (rx_ne s8 (by decide))).trans ((if_neg (rx_ne s8 (by decide))).trans ((if_neg (rx_ne s8 (by decide))).trans ((if_pos s8).trans rfl)))))))))).symm (rfl).symm
  · exact H _ _ (((if_neg (rx_ne s9 (by decide))).trans ((if_neg (rx_ne s9 (by decide))).trans ((if_neg (rx_ne s9 (by decide))).trans ((if_neg (rx_ne s9 (by decide))).trans ((if_neg (rx_ne s9 (by decide))).trans ((if_neg (rx_ne s9 (by decide))).trans ((if_neg (rx_ne s9 (by decide))).trans ((if_neg (rx_ne s9 (by decide))).trans ((if_neg (rx_ne s9 (by decide))).trans ((if_pos s9).trans rfl))))))))))).symm (rfl).symm
  · exact H _ _ (((if_neg s0).trans ((if_neg s1).trans ((if_neg s2).trans ((if_neg s3).trans ((if_neg s4).trans ((if_neg s5).trans ((if_neg s6).trans ((if_neg s7).trans ((if_neg s8).trans ((if_neg s9).trans rfl))))))))))).symm (rfl).symm

theorem d_Ac_remember_0 : decode q_Ac_remember.2.1 0 = .ok (.aload_n 1, 1) := by decide +kernel
theorem d_Ac_remember_1 : decode q_Ac_remember.2.1 1 = .ok (.aload_n 0, 1) := by decide +kernel
theorem d_Ac_remember_2 : decode q_Ac_remember.2.1 2 = .ok (.getfield 11, 3) := by decide +kernel
theorem fl_Ac_11 : rx_F "GlassRoom$Acts" 11 0 0 := ⟨(RX0, TX0, 3), rfl, by decide, (rx_s1 191 rfl rfl), rx_T0⟩
theorem d_Ac_remember_5 : decode q_Ac_remember.2.1 5 = .ok (.aload_n 0, 1) := by decide +kernel
theorem d_Ac_remember_6 : decode q_Ac_remember.2.1 6 = .ok (.getfield 17, 3) := by decide +kernel
theorem fl_Ac_17 : rx_F "GlassRoom$Acts" 17 0 1 := ⟨(RX0, TX0, 3), rfl, by decide, (rx_s1 192 rfl rfl), rx_T0⟩
theorem d_Ac_remember_9 : decode q_Ac_remember.2.1 9 = .ok (.bipush 13, 2) := by decide +kernel
theorem d_Ac_remember_11 : decode q_Ac_remember.2.1 11 = .ok (.imul, 1) := by decide +kernel
theorem d_Ac_remember_12 : decode q_Ac_remember.2.1 12 = .ok (.invokevirtual 21, 3) := by decide +kernel
theorem ml_Ac_21 : rx_CV "GlassRoom$Acts" 21 q_Ha_writeTo 2 := ⟨⟨(rx_s3 137 rfl rfl), (rx_s3 138 rfl rfl), (rx_s3 139 rfl rfl)⟩, ⟨(rx_s1 3 rfl rfl), q_Ha_writeTo_k, ⟨by decide, by decide, by decide +kernel⟩, by decide⟩⟩
theorem d_Ac_remember_15 : decode q_Ac_remember.2.1 15 = .ok (.aload_n 0, 1) := by decide +kernel
theorem d_Ac_remember_16 : decode q_Ac_remember.2.1 16 = .ok (.aload_n 0, 1) := by decide +kernel
theorem d_Ac_remember_17 : decode q_Ac_remember.2.1 17 = .ok (.getfield 17, 3) := by decide +kernel
theorem d_Ac_remember_20 : decode q_Ac_remember.2.1 20 = .ok (.iconst 1, 1) := by decide +kernel
theorem d_Ac_remember_21 : decode q_Ac_remember.2.1 21 = .ok (.iadd, 1) := by decide +kernel
theorem d_Ac_remember_22 : decode q_Ac_remember.2.1 22 = .ok (.bipush 40, 2) := by decide +kernel
theorem bp_40 : (Int8.ofInt (40)).toInt32 = (40 : Int32) := by decide
theorem d_Ac_remember_24 : decode q_Ac_remember.2.1 24 = .ok (.if_icmp .ge 12, 3) := by decide +kernel
theorem d_Ac_remember_36 : decode q_Ac_remember.2.1 36 = .ok (.iconst 0, 1) := by decide +kernel
theorem d_Ac_remember_27 : decode q_Ac_remember.2.1 27 = .ok (.aload_n 0, 1) := by decide +kernel
theorem d_Ac_remember_28 : decode q_Ac_remember.2.1 28 = .ok (.getfield 17, 3) := by decide +kernel
theorem d_Ac_remember_31 : decode q_Ac_remember.2.1 31 = .ok (.iconst 1, 1) := by decide +kernel
theorem d_Ac_remember_32 : decode q_Ac_remember.2.1 32 = .ok (.iadd, 1) := by decide +kernel
theorem d_Ac_remember_33 : decode q_Ac_remember.2.1 33 = .ok (.goto 4, 3) := by decide +kernel
theorem d_Ac_remember_37 : decode q_Ac_remember.2.1 37 = .ok (.putfield 17, 3) := by decide +kernel
theorem fp_Ac_17 : rx_FP "GlassRoom$Acts" 17 0 1 (.int) := ⟨(RX0, TX0, 3), tyX0, rfl, by decide, (rx_s1 192 rfl rfl), rx_T0, tyX0_ok, nmX0, rfl, rfl⟩
theorem d_Ac_remember_40 : decode q_Ac_remember.2.1 40 = .ok (.aload_n 0, 1) := by decide +kernel
theorem d_Ac_remember_41 : decode q_Ac_remember.2.1 41 = .ok (.getfield 25, 3) := by decide +kernel
theorem fl_Ac_25 : rx_F "GlassRoom$Acts" 25 0 2 := ⟨(RX0, TX0, 3), rfl, by decide, (rx_s1 193 rfl rfl), rx_T0⟩
theorem d_Ac_remember_44 : decode q_Ac_remember.2.1 44 = .ok (.bipush 40, 2) := by decide +kernel
theorem d_Ac_remember_46 : decode q_Ac_remember.2.1 46 = .ok (.if_icmp .ge 13, 3) := by decide +kernel
theorem d_Ac_remember_49 : decode q_Ac_remember.2.1 49 = .ok (.aload_n 0, 1) := by decide +kernel
theorem d_Ac_remember_50 : decode q_Ac_remember.2.1 50 = .ok (.dup, 1) := by decide +kernel
theorem d_Ac_remember_51 : decode q_Ac_remember.2.1 51 = .ok (.getfield 25, 3) := by decide +kernel
theorem d_Ac_remember_54 : decode q_Ac_remember.2.1 54 = .ok (.iconst 1, 1) := by decide +kernel
theorem d_Ac_remember_55 : decode q_Ac_remember.2.1 55 = .ok (.iadd, 1) := by decide +kernel
theorem d_Ac_remember_59 : decode q_Ac_remember.2.1 59 = .ok (.return_, 1) := by decide +kernel
theorem d_Ac_remember_56 : decode q_Ac_remember.2.1 56 = .ok (.putfield 25, 3) := by decide +kernel
theorem fp_Ac_25 : rx_FP "GlassRoom$Acts" 25 0 2 (.int) := ⟨(RX0, TX0, 3), tyX0, rfl, by decide, (rx_s1 193 rfl rfl), rx_T0, tyX0_ok, nmX0, rfl, rfl⟩
theorem d_Ac_takeBack_0 : decode q_Ac_takeBack.2.1 0 = .ok (.aload_n 0, 1) := by decide +kernel
theorem d_Ac_takeBack_1 : decode q_Ac_takeBack.2.1 1 = .ok (.getfield 25, 3) := by decide +kernel
theorem d_Ac_takeBack_4 : decode q_Ac_takeBack.2.1 4 = .ok (.ifCond .ne 5, 3) := by decide +kernel
theorem d_Ac_takeBack_7 : decode q_Ac_takeBack.2.1 7 = .ok (.iconst 0, 1) := by decide +kernel
theorem d_Ac_takeBack_8 : decode q_Ac_takeBack.2.1 8 = .ok (.ireturn, 1) := by decide +kernel
theorem d_Ac_takeBack_9 : decode q_Ac_takeBack.2.1 9 = .ok (.aload_n 0, 1) := by decide +kernel
theorem d_Ac_takeBack_10 : decode q_Ac_takeBack.2.1 10 = .ok (.aload_n 0, 1) := by decide +kernel
theorem d_Ac_takeBack_11 : decode q_Ac_takeBack.2.1 11 = .ok (.getfield 17, 3) := by decide +kernel
theorem d_Ac_takeBack_14 : decode q_Ac_takeBack.2.1 14 = .ok (.ifCond .le 12, 3) := by decide +kernel
theorem d_Ac_takeBack_26 : decode q_Ac_takeBack.2.1 26 = .ok (.bipush 39, 2) := by decide +kernel
theorem bp_39 : (Int8.ofInt (39)).toInt32 = (39 : Int32) := by decide
theorem d_Ac_takeBack_17 : decode q_Ac_takeBack.2.1 17 = .ok (.aload_n 0, 1) := by decide +kernel
theorem d_Ac_takeBack_18 : decode q_Ac_takeBack.2.1 18 = .ok (.getfield 17, 3) := by decide +kernel
theorem d_Ac_takeBack_21 : decode q_Ac_takeBack.2.1 21 = .ok (.iconst 1, 1) := by decide +kernel
theorem d_Ac_takeBack_22 : decode q_Ac_takeBack.2.1 22 = .ok (.isub, 1) := by decide +kernel
theorem d_Ac_takeBack_23 : decode q_Ac_takeBack.2.1 23 = .ok (.goto 5, 3) := by decide +kernel
theorem d_Ac_takeBack_28 : decode q_Ac_takeBack.2.1 28 = .ok (.putfield 17, 3) := by decide +kernel
theorem d_Ac_takeBack_31 : decode q_Ac_takeBack.2.1 31 = .ok (.aload_n 0, 1) := by decide +kernel
theorem d_Ac_takeBack_32 : decode q_Ac_takeBack.2.1 32 = .ok (.dup, 1) := by decide +kernel
theorem d_Ac_takeBack_33 : decode q_Ac_takeBack.2.1 33 = .ok (.getfield 25, 3) := by decide +kernel
theorem d_Ac_takeBack_36 : decode q_Ac_takeBack.2.1 36 = .ok (.iconst 1, 1) := by decide +kernel
theorem d_Ac_takeBack_37 : decode q_Ac_takeBack.2.1 37 = .ok (.isub, 1) := by decide +kernel
theorem d_Ac_takeBack_38 : decode q_Ac_takeBack.2.1 38 = .ok (.putfield 25, 3) := by decide +kernel
theorem d_Ac_takeBack_41 : decode q_Ac_takeBack.2.1 41 = .ok (.aload_n 1, 1) := by decide +kernel
theorem d_Ac_takeBack_42 : decode q_Ac_takeBack.2.1 42 = .ok (.aload_n 0, 1) := by decide +kernel
theorem d_Ac_takeBack_43 : decode q_Ac_takeBack.2.1 43 = .ok (.getfield 11, 3) := by decide +kernel
theorem d_Ac_takeBack_46 : decode q_Ac_takeBack.2.1 46 = .ok (.aload_n 0, 1) := by decide +kernel
theorem d_Ac_takeBack_47 : decode q_Ac_takeBack.2.1 47 = .ok (.getfield 17, 3) := by decide +kernel
theorem d_Ac_takeBack_50 : decode q_Ac_takeBack.2.1 50 = .ok (.bipush 13, 2) := by decide +kernel
theorem d_Ac_takeBack_52 : decode q_Ac_takeBack.2.1 52 = .ok (.imul, 1) := by decide +kernel
theorem d_Ac_takeBack_53 : decode q_Ac_takeBack.2.1 53 = .ok (.invokevirtual 28, 3) := by decide +kernel
theorem ml_Ac_28 : rx_CV "GlassRoom$Acts" 28 q_Ha_readFrom 2 := ⟨⟨(rx_s3 166 rfl rfl), (rx_s3 167 rfl rfl), (rx_s3 168 rfl rfl)⟩, ⟨(rx_s1 3 rfl rfl), q_Ha_readFrom_k, ⟨by decide, by decide, by decide +kernel⟩, by decide⟩⟩
theorem d_Ac_takeBack_56 : decode q_Ac_takeBack.2.1 56 = .ok (.iconst 1, 1) := by decide +kernel
theorem d_Ac_takeBack_57 : decode q_Ac_takeBack.2.1 57 = .ok (.ireturn, 1) := by decide +kernel
theorem d_GR_undo_0 : decode q_GR_undo.2.1 0 = .ok (.aload_n 0, 1) := by decide +kernel
theorem d_GR_undo_1 : decode q_GR_undo.2.1 1 = .ok (.getfield 56, 3) := by decide +kernel
theorem d_GR_undo_4 : decode q_GR_undo.2.1 4 = .ok (.aload_n 0, 1) := by decide +kernel
theorem d_GR_undo_5 : decode q_GR_undo.2.1 5 = .ok (.getfield 19, 3) := by decide +kernel
theorem d_GR_undo_8 : decode q_GR_undo.2.1 8 = .ok (.invokevirtual 188, 3) := by decide +kernel
theorem ml_GR_188 : rx_CV "GlassRoom" 188 q_Ac_takeBack 1 := ⟨⟨(rx_s3 162 rfl rfl), (rx_s3 163 rfl rfl), (rx_s3 164 rfl rfl)⟩, ⟨(rx_s1 7 rfl rfl), q_Ac_takeBack_k, ⟨by decide, by decide, by decide +kernel⟩, by decide⟩⟩
theorem d_GR_undo_11 : decode q_GR_undo.2.1 11 = .ok (.ifCond .eq 13, 3) := by decide +kernel
theorem d_GR_undo_24 : decode q_GR_undo.2.1 24 = .ok (.iconst (-1), 1) := by decide +kernel
theorem d_GR_undo_14 : decode q_GR_undo.2.1 14 = .ok (.aload_n 0, 1) := by decide +kernel
theorem d_GR_undo_15 : decode q_GR_undo.2.1 15 = .ok (.getfield 56, 3) := by decide +kernel
theorem d_GR_undo_18 : decode q_GR_undo.2.1 18 = .ok (.getfield 139, 3) := by decide +kernel
theorem d_GR_undo_21 : decode q_GR_undo.2.1 21 = .ok (.goto 4, 3) := by decide +kernel
theorem d_GR_undo_25 : decode q_GR_undo.2.1 25 = .ok (.ireturn, 1) := by decide +kernel
theorem d_GR_keep_0 : decode q_GR_keep.2.1 0 = .ok (.aload_n 0, 1) := by decide +kernel
theorem d_GR_keep_1 : decode q_GR_keep.2.1 1 = .ok (.getfield 19, 3) := by decide +kernel
theorem d_GR_keep_4 : decode q_GR_keep.2.1 4 = .ok (.invokevirtual 171, 3) := by decide +kernel
theorem d_GR_keep_7 : decode q_GR_keep.2.1 7 = .ok (.ifCond .ne 5, 3) := by decide +kernel
theorem d_GR_keep_10 : decode q_GR_keep.2.1 10 = .ok (.iconst (-1), 1) := by decide +kernel
theorem d_GR_keep_11 : decode q_GR_keep.2.1 11 = .ok (.ireturn, 1) := by decide +kernel
theorem d_GR_keep_12 : decode q_GR_keep.2.1 12 = .ok (.aload_n 0, 1) := by decide +kernel
theorem d_GR_keep_13 : decode q_GR_keep.2.1 13 = .ok (.getfield 19, 3) := by decide +kernel
theorem d_GR_keep_16 : decode q_GR_keep.2.1 16 = .ok (.aload_n 0, 1) := by decide +kernel
theorem d_GR_keep_17 : decode q_GR_keep.2.1 17 = .ok (.getfield 60, 3) := by decide +kernel
theorem fl_GR_60 : rx_F "GlassRoom" 60 11 8 := ⟨(RX11, TX11, 17), rfl, by decide, (rx_s2 107 rfl rfl), rx_T11⟩
theorem d_GR_keep_20 : decode q_GR_keep.2.1 20 = .ok (.iconst 0, 1) := by decide +kernel
theorem d_GR_keep_21 : decode q_GR_keep.2.1 21 = .ok (.invokevirtual 329, 3) := by decide +kernel
theorem ml_GR_329 : rx_CV "GlassRoom" 329 q_Ha_writeTo 2 := ⟨⟨(rx_s5 10 rfl rfl), (rx_s3 138 rfl rfl), (rx_s3 139 rfl rfl)⟩, ⟨(rx_s1 3 rfl rfl), q_Ha_writeTo_k, ⟨by decide, by decide, by decide +kernel⟩, by decide⟩⟩
theorem d_GR_keep_24 : decode q_GR_keep.2.1 24 = .ok (.aload_n 0, 1) := by decide +kernel
theorem d_GR_keep_25 : decode q_GR_keep.2.1 25 = .ok (.iconst 1, 1) := by decide +kernel
theorem d_GR_keep_26 : decode q_GR_keep.2.1 26 = .ok (.putfield 107, 3) := by decide +kernel
theorem fp_GR_107 : rx_FP "GlassRoom" 107 11 16 (.boolean) := ⟨(RX11, TX11, 17), tyX11, rfl, by decide, (rx_s2 115 rfl rfl), rx_T11, tyX11_ok, nmX11, rfl, rfl⟩
theorem d_GR_keep_29 : decode q_GR_keep.2.1 29 = .ok (.aload_n 0, 1) := by decide +kernel
theorem d_GR_keep_30 : decode q_GR_keep.2.1 30 = .ok (.getfield 56, 3) := by decide +kernel
theorem d_GR_keep_33 : decode q_GR_keep.2.1 33 = .ok (.getfield 139, 3) := by decide +kernel
theorem d_GR_keep_36 : decode q_GR_keep.2.1 36 = .ok (.ireturn, 1) := by decide +kernel
theorem d_GR_back_0 : decode q_GR_back.2.1 0 = .ok (.aload_n 0, 1) := by decide +kernel
theorem d_GR_back_1 : decode q_GR_back.2.1 1 = .ok (.getfield 107, 3) := by decide +kernel
theorem fl_GR_107 : rx_F "GlassRoom" 107 11 16 := ⟨(RX11, TX11, 17), rfl, by decide, (rx_s2 115 rfl rfl), rx_T11⟩
theorem d_GR_back_4 : decode q_GR_back.2.1 4 = .ok (.ifCond .ne 5, 3) := by decide +kernel
theorem d_GR_back_7 : decode q_GR_back.2.1 7 = .ok (.iconst (-1), 1) := by decide +kernel
theorem d_GR_back_8 : decode q_GR_back.2.1 8 = .ok (.ireturn, 1) := by decide +kernel
theorem d_GR_back_9 : decode q_GR_back.2.1 9 = .ok (.aload_n 0, 1) := by decide +kernel
theorem d_GR_back_10 : decode q_GR_back.2.1 10 = .ok (.getfield 19, 3) := by decide +kernel
theorem d_GR_back_13 : decode q_GR_back.2.1 13 = .ok (.aload_n 0, 1) := by decide +kernel
theorem d_GR_back_14 : decode q_GR_back.2.1 14 = .ok (.getfield 60, 3) := by decide +kernel
theorem d_GR_back_17 : decode q_GR_back.2.1 17 = .ok (.iconst 0, 1) := by decide +kernel
theorem d_GR_back_18 : decode q_GR_back.2.1 18 = .ok (.invokevirtual 333, 3) := by decide +kernel
theorem ml_GR_333 : rx_CV "GlassRoom" 333 q_Ha_readFrom 2 := ⟨⟨(rx_s5 15 rfl rfl), (rx_s3 167 rfl rfl), (rx_s3 168 rfl rfl)⟩, ⟨(rx_s1 3 rfl rfl), q_Ha_readFrom_k, ⟨by decide, by decide, by decide +kernel⟩, by decide⟩⟩
theorem d_GR_back_21 : decode q_GR_back.2.1 21 = .ok (.aload_n 0, 1) := by decide +kernel
theorem d_GR_back_22 : decode q_GR_back.2.1 22 = .ok (.getfield 56, 3) := by decide +kernel
theorem d_GR_back_25 : decode q_GR_back.2.1 25 = .ok (.iconst 0, 1) := by decide +kernel
theorem d_GR_back_26 : decode q_GR_back.2.1 26 = .ok (.putfield 139, 3) := by decide +kernel
theorem fp_GR_139 : rx_FP "GlassRoom" 139 0 2 (.int) := ⟨(RX0, TX0, 3), tyX0, rfl, by decide, (rx_s1 194 rfl rfl), rx_T0, tyX0_ok, nmX0, rfl, rfl⟩
theorem d_GR_back_29 : decode q_GR_back.2.1 29 = .ok (.iconst 0, 1) := by decide +kernel
theorem d_GR_back_30 : decode q_GR_back.2.1 30 = .ok (.ireturn, 1) := by decide +kernel
theorem d_M_keepAct_0 : decode q_M_keepAct.2.1 0 = .ok (.aload_n 0, 1) := by decide +kernel
theorem d_M_keepAct_1 : decode q_M_keepAct.2.1 1 = .ok (.getfield 254, 3) := by decide +kernel
theorem d_M_keepAct_4 : decode q_M_keepAct.2.1 4 = .ok (.bipush 40, 2) := by decide +kernel
theorem d_M_keepAct_6 : decode q_M_keepAct.2.1 6 = .ok (.if_icmp .ne 44, 3) := by decide +kernel
theorem d_M_keepAct_9 : decode q_M_keepAct.2.1 9 = .ok (.bipush 13, 2) := by decide +kernel
theorem d_M_keepAct_11 : decode q_M_keepAct.2.1 11 = .ok (.istore_n 1, 1) := by decide +kernel
theorem d_M_keepAct_50 : decode q_M_keepAct.2.1 50 = .ok (.aload_n 0, 1) := by decide +kernel
theorem d_M_keepAct_51 : decode q_M_keepAct.2.1 51 = .ok (.aload_n 0, 1) := by decide +kernel
theorem d_M_keepAct_52 : decode q_M_keepAct.2.1 52 = .ok (.getfield 59, 3) := by decide +kernel
theorem fl_M_59 : rx_F "GlassRoomModel" 59 12 29 := ⟨(RX12, TX12, 45), rfl, by decide, (rx_s5 128 rfl rfl), rx_T12⟩
theorem d_M_keepAct_55 : decode q_M_keepAct.2.1 55 = .ok (.bipush 13, 2) := by decide +kernel
theorem d_M_keepAct_57 : decode q_M_keepAct.2.1 57 = .ok (.aload_n 0, 1) := by decide +kernel
theorem d_M_keepAct_58 : decode q_M_keepAct.2.1 58 = .ok (.getfield 254, 3) := by decide +kernel
theorem d_M_keepAct_61 : decode q_M_keepAct.2.1 61 = .ok (.imul, 1) := by decide +kernel
theorem d_M_keepAct_62 : decode q_M_keepAct.2.1 62 = .ok (.invokevirtual 270, 3) := by decide +kernel
theorem ml_M_270 : rx_CV "GlassRoomModel" 270 q_M_write 2 := ⟨⟨(rx_s6 162 rfl rfl), (rx_s6 164 rfl rfl), (rx_s0 50 rfl rfl)⟩, ⟨(rx_s1 13 rfl rfl), q_M_write_k, ⟨by decide, by decide, by decide +kernel⟩, by decide⟩⟩
theorem d_M_keepAct_65 : decode q_M_keepAct.2.1 65 = .ok (.aload_n 0, 1) := by decide +kernel
theorem d_M_keepAct_66 : decode q_M_keepAct.2.1 66 = .ok (.dup, 1) := by decide +kernel
theorem d_M_keepAct_67 : decode q_M_keepAct.2.1 67 = .ok (.getfield 254, 3) := by decide +kernel
theorem d_M_keepAct_70 : decode q_M_keepAct.2.1 70 = .ok (.iconst 1, 1) := by decide +kernel
theorem d_M_keepAct_71 : decode q_M_keepAct.2.1 71 = .ok (.iadd, 1) := by decide +kernel
theorem d_M_keepAct_72 : decode q_M_keepAct.2.1 72 = .ok (.putfield 254, 3) := by decide +kernel
theorem d_M_keepAct_75 : decode q_M_keepAct.2.1 75 = .ok (.return_, 1) := by decide +kernel
theorem d_M_keepAct_12 : decode q_M_keepAct.2.1 12 = .ok (.iload_n 1, 1) := by decide +kernel
theorem d_M_keepAct_13 : decode q_M_keepAct.2.1 13 = .ok (.sipush 520, 3) := by decide +kernel
theorem sp_520 : (Int16.ofInt (520)).toInt32 = (520 : Int32) := by decide
theorem d_M_keepAct_16 : decode q_M_keepAct.2.1 16 = .ok (.if_icmp .ge 24, 3) := by decide +kernel
theorem d_M_keepAct_19 : decode q_M_keepAct.2.1 19 = .ok (.aload_n 0, 1) := by decide +kernel
theorem d_M_keepAct_20 : decode q_M_keepAct.2.1 20 = .ok (.getfield 59, 3) := by decide +kernel
theorem d_M_keepAct_23 : decode q_M_keepAct.2.1 23 = .ok (.iload_n 1, 1) := by decide +kernel
theorem d_M_keepAct_24 : decode q_M_keepAct.2.1 24 = .ok (.bipush 13, 2) := by decide +kernel
theorem d_M_keepAct_26 : decode q_M_keepAct.2.1 26 = .ok (.isub, 1) := by decide +kernel
theorem d_M_keepAct_27 : decode q_M_keepAct.2.1 27 = .ok (.aload_n 0, 1) := by decide +kernel
theorem d_M_keepAct_28 : decode q_M_keepAct.2.1 28 = .ok (.getfield 59, 3) := by decide +kernel
theorem d_M_keepAct_31 : decode q_M_keepAct.2.1 31 = .ok (.iload_n 1, 1) := by decide +kernel
theorem d_M_keepAct_40 : decode q_M_keepAct.2.1 40 = .ok (.aload_n 0, 1) := by decide +kernel
theorem d_M_keepAct_41 : decode q_M_keepAct.2.1 41 = .ok (.dup, 1) := by decide +kernel
theorem d_M_keepAct_42 : decode q_M_keepAct.2.1 42 = .ok (.getfield 254, 3) := by decide +kernel
theorem d_M_keepAct_45 : decode q_M_keepAct.2.1 45 = .ok (.iconst 1, 1) := by decide +kernel
theorem d_M_keepAct_46 : decode q_M_keepAct.2.1 46 = .ok (.isub, 1) := by decide +kernel
theorem d_M_keepAct_47 : decode q_M_keepAct.2.1 47 = .ok (.putfield 254, 3) := by decide +kernel
theorem d_M_keepAct_32 : decode q_M_keepAct.2.1 32 = .ok (.iaload, 1) := by decide +kernel
theorem d_M_keepAct_33 : decode q_M_keepAct.2.1 33 = .ok (.iastore, 1) := by decide +kernel
theorem d_M_keepAct_34 : decode q_M_keepAct.2.1 34 = .ok (.iinc 1 1, 3) := by decide +kernel
theorem d_M_keepAct_37 : decode q_M_keepAct.2.1 37 = .ok (.goto (-25), 3) := by decide +kernel
theorem d_M_undo_0 : decode q_M_undo.2.1 0 = .ok (.aload_n 0, 1) := by decide +kernel
theorem d_M_undo_1 : decode q_M_undo.2.1 1 = .ok (.getfield 254, 3) := by decide +kernel
theorem d_M_undo_4 : decode q_M_undo.2.1 4 = .ok (.ifCond .ne 5, 3) := by decide +kernel
theorem d_M_undo_7 : decode q_M_undo.2.1 7 = .ok (.iconst (-1), 1) := by decide +kernel
theorem d_M_undo_8 : decode q_M_undo.2.1 8 = .ok (.ireturn, 1) := by decide +kernel
theorem d_M_undo_9 : decode q_M_undo.2.1 9 = .ok (.aload_n 0, 1) := by decide +kernel
theorem d_M_undo_10 : decode q_M_undo.2.1 10 = .ok (.dup, 1) := by decide +kernel
theorem d_M_undo_11 : decode q_M_undo.2.1 11 = .ok (.getfield 254, 3) := by decide +kernel
theorem d_M_undo_14 : decode q_M_undo.2.1 14 = .ok (.iconst 1, 1) := by decide +kernel
theorem d_M_undo_15 : decode q_M_undo.2.1 15 = .ok (.isub, 1) := by decide +kernel
theorem d_M_undo_16 : decode q_M_undo.2.1 16 = .ok (.putfield 254, 3) := by decide +kernel
theorem d_M_undo_19 : decode q_M_undo.2.1 19 = .ok (.aload_n 0, 1) := by decide +kernel
theorem d_M_undo_20 : decode q_M_undo.2.1 20 = .ok (.aload_n 0, 1) := by decide +kernel
theorem d_M_undo_21 : decode q_M_undo.2.1 21 = .ok (.getfield 59, 3) := by decide +kernel
theorem d_M_undo_24 : decode q_M_undo.2.1 24 = .ok (.bipush 13, 2) := by decide +kernel
theorem d_M_undo_26 : decode q_M_undo.2.1 26 = .ok (.aload_n 0, 1) := by decide +kernel
theorem d_M_undo_27 : decode q_M_undo.2.1 27 = .ok (.getfield 254, 3) := by decide +kernel
theorem d_M_undo_30 : decode q_M_undo.2.1 30 = .ok (.imul, 1) := by decide +kernel
theorem d_M_undo_31 : decode q_M_undo.2.1 31 = .ok (.invokevirtual 286, 3) := by decide +kernel
theorem ml_M_286 : rx_CV "GlassRoomModel" 286 q_M_read 2 := ⟨⟨(rx_s6 181 rfl rfl), (rx_s6 183 rfl rfl), (rx_s0 51 rfl rfl)⟩, ⟨(rx_s1 13 rfl rfl), q_M_read_k, ⟨by decide, by decide, by decide +kernel⟩, by decide⟩⟩
theorem d_M_undo_34 : decode q_M_undo.2.1 34 = .ok (.aload_n 0, 1) := by decide +kernel
theorem d_M_undo_35 : decode q_M_undo.2.1 35 = .ok (.getfield 254, 3) := by decide +kernel
theorem d_M_undo_38 : decode q_M_undo.2.1 38 = .ok (.ireturn, 1) := by decide +kernel
theorem d_M_keep_0 : decode q_M_keep.2.1 0 = .ok (.aload_n 0, 1) := by decide +kernel
theorem d_M_keep_1 : decode q_M_keep.2.1 1 = .ok (.getfield 236, 3) := by decide +kernel
theorem d_M_keep_4 : decode q_M_keep.2.1 4 = .ok (.ifCond .ne 5, 3) := by decide +kernel
theorem d_M_keep_7 : decode q_M_keep.2.1 7 = .ok (.iconst (-1), 1) := by decide +kernel
theorem d_M_keep_8 : decode q_M_keep.2.1 8 = .ok (.ireturn, 1) := by decide +kernel
theorem d_M_keep_9 : decode q_M_keep.2.1 9 = .ok (.aload_n 0, 1) := by decide +kernel
theorem d_M_keep_10 : decode q_M_keep.2.1 10 = .ok (.aload_n 0, 1) := by decide +kernel
theorem d_M_keep_11 : decode q_M_keep.2.1 11 = .ok (.getfield 80, 3) := by decide +kernel
theorem fl_M_80 : rx_F "GlassRoomModel" 80 12 43 := ⟨(RX12, TX12, 45), rfl, by decide, (rx_s5 142 rfl rfl), rx_T12⟩
theorem d_M_keep_14 : decode q_M_keep.2.1 14 = .ok (.iconst 0, 1) := by decide +kernel
theorem d_M_keep_15 : decode q_M_keep.2.1 15 = .ok (.invokevirtual 270, 3) := by decide +kernel
theorem d_M_keep_18 : decode q_M_keep.2.1 18 = .ok (.aload_n 0, 1) := by decide +kernel
theorem d_M_keep_19 : decode q_M_keep.2.1 19 = .ok (.iconst 1, 1) := by decide +kernel
theorem d_M_keep_20 : decode q_M_keep.2.1 20 = .ok (.putfield 257, 3) := by decide +kernel
theorem d_M_keep_23 : decode q_M_keep.2.1 23 = .ok (.aload_n 0, 1) := by decide +kernel
theorem d_M_keep_24 : decode q_M_keep.2.1 24 = .ok (.getfield 254, 3) := by decide +kernel
theorem d_M_keep_27 : decode q_M_keep.2.1 27 = .ok (.ireturn, 1) := by decide +kernel
theorem d_M_back_0 : decode q_M_back.2.1 0 = .ok (.aload_n 0, 1) := by decide +kernel
theorem d_M_back_1 : decode q_M_back.2.1 1 = .ok (.getfield 257, 3) := by decide +kernel
theorem fl_M_257 : rx_F "GlassRoomModel" 257 12 44 := ⟨(RX12, TX12, 45), rfl, by decide, (rx_s5 143 rfl rfl), rx_T12⟩
theorem d_M_back_4 : decode q_M_back.2.1 4 = .ok (.ifCond .ne 5, 3) := by decide +kernel
theorem d_M_back_7 : decode q_M_back.2.1 7 = .ok (.iconst (-1), 1) := by decide +kernel
theorem d_M_back_8 : decode q_M_back.2.1 8 = .ok (.ireturn, 1) := by decide +kernel
theorem d_M_back_9 : decode q_M_back.2.1 9 = .ok (.aload_n 0, 1) := by decide +kernel
theorem d_M_back_10 : decode q_M_back.2.1 10 = .ok (.aload_n 0, 1) := by decide +kernel
theorem d_M_back_11 : decode q_M_back.2.1 11 = .ok (.getfield 80, 3) := by decide +kernel
theorem d_M_back_14 : decode q_M_back.2.1 14 = .ok (.iconst 0, 1) := by decide +kernel
theorem d_M_back_15 : decode q_M_back.2.1 15 = .ok (.invokevirtual 286, 3) := by decide +kernel
theorem d_M_back_18 : decode q_M_back.2.1 18 = .ok (.aload_n 0, 1) := by decide +kernel
theorem d_M_back_19 : decode q_M_back.2.1 19 = .ok (.iconst 0, 1) := by decide +kernel
theorem d_M_back_20 : decode q_M_back.2.1 20 = .ok (.putfield 254, 3) := by decide +kernel
theorem d_M_back_23 : decode q_M_back.2.1 23 = .ok (.iconst 0, 1) := by decide +kernel
theorem d_M_back_24 : decode q_M_back.2.1 24 = .ok (.ireturn, 1) := by decide +kernel
theorem d_GR_move_0 : decode q_GR_move.2.1 0 = .ok (.aload_n 0, 1) := by decide +kernel
theorem d_GR_move_1 : decode q_GR_move.2.1 1 = .ok (.getfield 19, 3) := by decide +kernel
theorem d_GR_move_4 : decode q_GR_move.2.1 4 = .ok (.iload_n 1, 1) := by decide +kernel
theorem d_GR_move_5 : decode q_GR_move.2.1 5 = .ok (.invokevirtual 144, 3) := by decide +kernel
theorem d_GR_move_8 : decode q_GR_move.2.1 8 = .ok (.ifCond .eq 41, 3) := by decide +kernel
theorem d_GR_move_49 : decode q_GR_move.2.1 49 = .ok (.iconst (-1), 1) := by decide +kernel
theorem d_GR_move_50 : decode q_GR_move.2.1 50 = .ok (.ireturn, 1) := by decide +kernel
theorem d_GR_move_11 : decode q_GR_move.2.1 11 = .ok (.aload_n 0, 1) := by decide +kernel
theorem d_GR_move_12 : decode q_GR_move.2.1 12 = .ok (.getfield 19, 3) := by decide +kernel
theorem d_GR_move_15 : decode q_GR_move.2.1 15 = .ok (.iload_n 2, 1) := by decide +kernel
theorem d_GR_move_16 : decode q_GR_move.2.1 16 = .ok (.iload_n 3, 1) := by decide +kernel
theorem d_GR_move_17 : decode q_GR_move.2.1 17 = .ok (.invokevirtual 164, 3) := by decide +kernel
theorem ml_GR_164 : rx_CV "GlassRoom" 164 q_Ha_isInside 2 := ⟨⟨(rx_s3 132 rfl rfl), (rx_s3 54 rfl rfl), (rx_s3 55 rfl rfl)⟩, ⟨(rx_s1 3 rfl rfl), q_Ha_isInside_k, ⟨by decide, by decide, by decide +kernel⟩, by decide⟩⟩
theorem d_GR_move_20 : decode q_GR_move.2.1 20 = .ok (.ifCond .eq 29, 3) := by decide +kernel
theorem d_GR_move_23 : decode q_GR_move.2.1 23 = .ok (.aload_n 0, 1) := by decide +kernel
theorem d_GR_move_24 : decode q_GR_move.2.1 24 = .ok (.getfield 19, 3) := by decide +kernel
theorem d_GR_move_27 : decode q_GR_move.2.1 27 = .ok (.getfield 155, 3) := by decide +kernel
theorem d_GR_move_30 : decode q_GR_move.2.1 30 = .ok (.iload_n 1, 1) := by decide +kernel
theorem d_GR_move_31 : decode q_GR_move.2.1 31 = .ok (.iaload, 1) := by decide +kernel
theorem d_GR_move_32 : decode q_GR_move.2.1 32 = .ok (.iload_n 2, 1) := by decide +kernel
theorem d_GR_move_33 : decode q_GR_move.2.1 33 = .ok (.if_icmp .ne 18, 3) := by decide +kernel
theorem d_GR_move_36 : decode q_GR_move.2.1 36 = .ok (.aload_n 0, 1) := by decide +kernel
theorem d_GR_move_37 : decode q_GR_move.2.1 37 = .ok (.getfield 19, 3) := by decide +kernel
theorem d_GR_move_40 : decode q_GR_move.2.1 40 = .ok (.getfield 158, 3) := by decide +kernel
theorem d_GR_move_43 : decode q_GR_move.2.1 43 = .ok (.iload_n 1, 1) := by decide +kernel
theorem d_GR_move_44 : decode q_GR_move.2.1 44 = .ok (.iaload, 1) := by decide +kernel
theorem d_GR_move_45 : decode q_GR_move.2.1 45 = .ok (.iload_n 3, 1) := by decide +kernel
theorem d_GR_move_46 : decode q_GR_move.2.1 46 = .ok (.if_icmp .ne 5, 3) := by decide +kernel
theorem d_GR_move_51 : decode q_GR_move.2.1 51 = .ok (.aload_n 0, 1) := by decide +kernel
theorem d_GR_move_52 : decode q_GR_move.2.1 52 = .ok (.getfield 56, 3) := by decide +kernel
theorem d_GR_move_55 : decode q_GR_move.2.1 55 = .ok (.aload_n 0, 1) := by decide +kernel
theorem d_GR_move_56 : decode q_GR_move.2.1 56 = .ok (.getfield 19, 3) := by decide +kernel
theorem d_GR_move_59 : decode q_GR_move.2.1 59 = .ok (.invokevirtual 168, 3) := by decide +kernel
theorem ml_GR_168 : rx_CV "GlassRoom" 168 q_Ac_remember 1 := ⟨⟨(rx_s3 133 rfl rfl), (rx_s3 134 rfl rfl), (rx_s3 135 rfl rfl)⟩, ⟨(rx_s1 7 rfl rfl), q_Ac_remember_k, ⟨by decide, by decide, by decide +kernel⟩, by decide⟩⟩
theorem d_GR_move_62 : decode q_GR_move.2.1 62 = .ok (.aload_n 0, 1) := by decide +kernel
theorem d_GR_move_63 : decode q_GR_move.2.1 63 = .ok (.getfield 19, 3) := by decide +kernel
theorem d_GR_move_66 : decode q_GR_move.2.1 66 = .ok (.getfield 155, 3) := by decide +kernel
theorem d_GR_move_69 : decode q_GR_move.2.1 69 = .ok (.iload_n 1, 1) := by decide +kernel
theorem d_GR_move_70 : decode q_GR_move.2.1 70 = .ok (.iload_n 2, 1) := by decide +kernel
theorem d_GR_move_71 : decode q_GR_move.2.1 71 = .ok (.iastore, 1) := by decide +kernel
theorem d_GR_move_72 : decode q_GR_move.2.1 72 = .ok (.aload_n 0, 1) := by decide +kernel
theorem d_GR_move_73 : decode q_GR_move.2.1 73 = .ok (.getfield 19, 3) := by decide +kernel
theorem d_GR_move_76 : decode q_GR_move.2.1 76 = .ok (.getfield 158, 3) := by decide +kernel
theorem d_GR_move_79 : decode q_GR_move.2.1 79 = .ok (.iload_n 1, 1) := by decide +kernel
theorem d_GR_move_80 : decode q_GR_move.2.1 80 = .ok (.iload_n 3, 1) := by decide +kernel
theorem d_GR_move_81 : decode q_GR_move.2.1 81 = .ok (.iastore, 1) := by decide +kernel
theorem d_GR_move_82 : decode q_GR_move.2.1 82 = .ok (.aload_n 0, 1) := by decide +kernel
theorem d_GR_move_83 : decode q_GR_move.2.1 83 = .ok (.getfield 56, 3) := by decide +kernel
theorem d_GR_move_86 : decode q_GR_move.2.1 86 = .ok (.getfield 139, 3) := by decide +kernel
theorem d_GR_move_89 : decode q_GR_move.2.1 89 = .ok (.ireturn, 1) := by decide +kernel
theorem d_GR_glass_0 : decode q_GR_glass.2.1 0 = .ok (.aload_n 0, 1) := by decide +kernel
theorem d_GR_glass_1 : decode q_GR_glass.2.1 1 = .ok (.getfield 19, 3) := by decide +kernel
theorem d_GR_glass_4 : decode q_GR_glass.2.1 4 = .ok (.invokevirtual 171, 3) := by decide +kernel
theorem d_GR_glass_7 : decode q_GR_glass.2.1 7 = .ok (.ifCond .eq 24, 3) := by decide +kernel
theorem d_GR_glass_31 : decode q_GR_glass.2.1 31 = .ok (.iconst (-1), 1) := by decide +kernel
theorem d_GR_glass_32 : decode q_GR_glass.2.1 32 = .ok (.ireturn, 1) := by decide +kernel
theorem d_GR_glass_10 : decode q_GR_glass.2.1 10 = .ok (.iload_n 1, 1) := by decide +kernel
theorem d_GR_glass_11 : decode q_GR_glass.2.1 11 = .ok (.ifCond .lt 20, 3) := by decide +kernel
theorem d_GR_glass_14 : decode q_GR_glass.2.1 14 = .ok (.iload_n 1, 1) := by decide +kernel
theorem d_GR_glass_15 : decode q_GR_glass.2.1 15 = .ok (.bipush 15, 2) := by decide +kernel
theorem d_GR_glass_17 : decode q_GR_glass.2.1 17 = .ok (.if_icmp .gt 14, 3) := by decide +kernel
theorem d_GR_glass_20 : decode q_GR_glass.2.1 20 = .ok (.iload_n 1, 1) := by decide +kernel
theorem d_GR_glass_21 : decode q_GR_glass.2.1 21 = .ok (.aload_n 0, 1) := by decide +kernel
theorem d_GR_glass_22 : decode q_GR_glass.2.1 22 = .ok (.getfield 19, 3) := by decide +kernel
theorem d_GR_glass_25 : decode q_GR_glass.2.1 25 = .ok (.getfield 175, 3) := by decide +kernel
theorem d_GR_glass_28 : decode q_GR_glass.2.1 28 = .ok (.if_icmp .ne 5, 3) := by decide +kernel
theorem d_GR_glass_33 : decode q_GR_glass.2.1 33 = .ok (.aload_n 0, 1) := by decide +kernel
theorem d_GR_glass_34 : decode q_GR_glass.2.1 34 = .ok (.getfield 56, 3) := by decide +kernel
theorem d_GR_glass_37 : decode q_GR_glass.2.1 37 = .ok (.aload_n 0, 1) := by decide +kernel
theorem d_GR_glass_38 : decode q_GR_glass.2.1 38 = .ok (.getfield 19, 3) := by decide +kernel
theorem d_GR_glass_41 : decode q_GR_glass.2.1 41 = .ok (.invokevirtual 168, 3) := by decide +kernel
theorem d_GR_glass_44 : decode q_GR_glass.2.1 44 = .ok (.aload_n 0, 1) := by decide +kernel
theorem d_GR_glass_45 : decode q_GR_glass.2.1 45 = .ok (.getfield 19, 3) := by decide +kernel
theorem d_GR_glass_48 : decode q_GR_glass.2.1 48 = .ok (.iload_n 1, 1) := by decide +kernel
theorem d_GR_glass_49 : decode q_GR_glass.2.1 49 = .ok (.putfield 175, 3) := by decide +kernel
theorem fp_GR_175 : rx_FP "GlassRoom" 175 3 7 (.int) := ⟨(RX3, TX3, 9), tyX3, rfl, by decide, (rx_s1 105 rfl rfl), rx_T3, tyX3_ok, nmX3, rfl, rfl⟩
theorem d_GR_glass_52 : decode q_GR_glass.2.1 52 = .ok (.aload_n 0, 1) := by decide +kernel
theorem d_GR_glass_53 : decode q_GR_glass.2.1 53 = .ok (.getfield 56, 3) := by decide +kernel
theorem d_GR_glass_56 : decode q_GR_glass.2.1 56 = .ok (.getfield 139, 3) := by decide +kernel
theorem d_GR_glass_59 : decode q_GR_glass.2.1 59 = .ok (.ireturn, 1) := by decide +kernel
set_option maxHeartbeats 4000000 in
set_option maxRecDepth 20000 in
theorem w_Ac_remember {G : rx_Gh} {hp : rx_Hp} {F : rx_Hp → Prop}  (H : p_Ha_writeTo_38 ((hp.1 37 1) * 13) ∧ ((40 ≤ ((g_Ha_writeTo_38 ((hp.1 37 1) * 13) hp).1 37 2) → F (rx_pf (g_Ha_writeTo_38 ((hp.1 37 1) * 13) hp) 37 1 ((if 40 ≤ (((g_Ha_writeTo_38 ((hp.1 37 1) * 13) hp).1 37 1) + 1) then 0 else (((g_Ha_writeTo_38 ((hp.1 37 1) * 13) hp).1 37 1) + 1)) : Int32))) ∧ (¬ 40 ≤ ((g_Ha_writeTo_38 ((hp.1 37 1) * 13) hp).1 37 2) → F (rx_pf (rx_pf (g_Ha_writeTo_38 ((hp.1 37 1) * 13) hp) 37 1 ((if 40 ≤ (((g_Ha_writeTo_38 ((hp.1 37 1) * 13) hp).1 37 1) + 1) then 0 else (((g_Ha_writeTo_38 ((hp.1 37 1) * 13) hp).1 37 1) + 1)) : Int32)) 37 2 (((g_Ha_writeTo_38 ((hp.1 37 1) * 13) hp).1 37 2) + 1))))) : Ev wC G 2 q_Ac_remember [.ref 37, .ref 3] hp (rV F) := by
  refine ev_of rfl (Nat.le_of_ble_eq_true rfl) rfl ?_
  show Rn wC G 2 q_Ac_remember 0 [some (.ref 37), some (.ref 3)] [] hp (rV F)
  refine r_aload_n (i := 1) d_Ac_remember_0 rfl rfl ?_
  refine r_aload_n (i := 0) d_Ac_remember_1 rfl rfl ?_
  refine r_getR (b := 37) (r := 38) d_Ac_remember_2 fl_Ac_11 (by decide) rfl rfl rfl ?_
  refine r_aload_n (i := 0) d_Ac_remember_5 rfl rfl ?_
  refine r_getI (b := 37) (v := hp.1 37 1) d_Ac_remember_6 fl_Ac_17 (by decide) rfl rfl rfl ?_
  refine r_bipush d_Ac_remember_9 bp_13 ?_
  refine r_imul d_Ac_remember_11 ?_
  obtain ⟨hp_12_0, H⟩ := H
  refine rk_VV (b := 3) (d' := 1) [.ref 38, .int ((hp.1 37 1) * 13)] [] d_Ac_remember_12 ml_Ac_21 rfl rfl (by decide) (by decide) rfl rfl (Nat.le_of_ble_eq_true rfl) (s_Ha_writeTo_38 ((hp.1 37 1) * 13) hp_12_0 ?_)
  have J24 : ∀ (v24_0 : Int32), v24_0 = ((if 40 ≤ (((g_Ha_writeTo_38 ((hp.1 37 1) * 13) hp).1 37 1) + 1) then 0 else (((g_Ha_writeTo_38 ((hp.1 37 1) * 13) hp).1 37 1) + 1)) : Int32) → Rn wC G 2 q_Ac_remember 37 [some (.ref 37), some (.ref 3)] [.int v24_0, .ref 37] (g_Ha_writeTo_38 ((hp.1 37 1) * 13) hp) (rV F) := by
    rintro _ rfl
    refine r_putI (b := 37) d_Ac_remember_37 fp_Ac_17 ⟨rfl, rfl⟩ (by decide) rfl rfl ?_
    refine r_aload_n (i := 0) d_Ac_remember_40 rfl rfl ?_
    refine r_getI (b := 37) (v := (g_Ha_writeTo_38 ((hp.1 37 1) * 13) hp).1 37 2) d_Ac_remember_41 fl_Ac_25 (by decide) rfl rfl rfl ?_
    refine r_bipush d_Ac_remember_44 bp_40 ?_
    refine r_icmp_ge (tgt := 59) d_Ac_remember_46 (by decide) (fun hc_46 => ?_) (fun hc_46 => ?_)
    · replace H := H.1 hc_46
      exact rV_ret d_Ac_remember_59 rfl H
    · replace H := H.2 hc_46
      refine r_aload_n (i := 0) d_Ac_remember_49 rfl rfl ?_
      refine r_dupr d_Ac_remember_50 ?_
      refine r_getI (b := 37) (v := (g_Ha_writeTo_38 ((hp.1 37 1) * 13) hp).1 37 2) d_Ac_remember_51 fl_Ac_25 (by decide) rfl rfl rfl ?_
      refine r_iconst d_Ac_remember_54 ic_1 ?_
      refine r_iadd d_Ac_remember_55 ?_
      refine r_putI (b := 37) d_Ac_remember_56 fp_Ac_25 ⟨rfl, rfl⟩ (by decide) rfl rfl ?_
      exact rV_ret d_Ac_remember_59 rfl H
  refine r_aload_n (i := 0) d_Ac_remember_15 rfl rfl ?_
  refine r_aload_n (i := 0) d_Ac_remember_16 rfl rfl ?_
  refine r_getI (b := 37) (v := (g_Ha_writeTo_38 ((hp.1 37 1) * 13) hp).1 37 1) d_Ac_remember_17 fl_Ac_17 (by decide) rfl rfl rfl ?_
  refine r_iconst d_Ac_remember_20 ic_1 ?_
  refine r_iadd d_Ac_remember_21 ?_
  refine r_bipush d_Ac_remember_22 bp_40 ?_
  refine r_icmp_ge (tgt := 36) d_Ac_remember_24 (by decide) (fun hc_24 => ?_) (fun hc_24 => ?_)
  · refine r_iconst d_Ac_remember_36 ic_0 ?_
    exact J24 _ (((if_pos hc_24).trans rfl)).symm
  · refine r_aload_n (i := 0) d_Ac_remember_27 rfl rfl ?_
    refine r_getI (b := 37) (v := (g_Ha_writeTo_38 ((hp.1 37 1) * 13) hp).1 37 1) d_Ac_remember_28 fl_Ac_17 (by decide) rfl rfl rfl ?_
    refine r_iconst d_Ac_remember_31 ic_1 ?_
    refine r_iadd d_Ac_remember_32 ?_
    refine r_goto (tgt := 37) d_Ac_remember_33 (by decide) ?_
    exact J24 _ (((if_neg hc_24).trans rfl)).symm
def g_Ac_remember  (hp : rx_Hp) : rx_Hp := (if 40 ≤ ((g_Ha_writeTo_38 ((hp.1 37 1) * 13) hp).1 37 2) then (rx_pf (g_Ha_writeTo_38 ((hp.1 37 1) * 13) hp) 37 1 ((if 40 ≤ (((g_Ha_writeTo_38 ((hp.1 37 1) * 13) hp).1 37 1) + 1) then 0 else (((g_Ha_writeTo_38 ((hp.1 37 1) * 13) hp).1 37 1) + 1)) : Int32)) else (rx_pf (rx_pf (g_Ha_writeTo_38 ((hp.1 37 1) * 13) hp) 37 1 ((if 40 ≤ (((g_Ha_writeTo_38 ((hp.1 37 1) * 13) hp).1 37 1) + 1) then 0 else (((g_Ha_writeTo_38 ((hp.1 37 1) * 13) hp).1 37 1) + 1)) : Int32)) 37 2 (((g_Ha_writeTo_38 ((hp.1 37 1) * 13) hp).1 37 2) + 1)))
def p_Ac_remember  (hp : rx_Hp) : Prop := p_Ha_writeTo_38 ((hp.1 37 1) * 13)
theorem s_Ac_remember {G : rx_Gh} {hp : rx_Hp} {F : rx_Hp → Prop}  (hP : (p_Ac_remember hp)) (H0 : F (g_Ac_remember hp)) : Ev wC G 2 q_Ac_remember [.ref 37, .ref 3] hp (rV F) := by
  have H : ∀ h, h = (g_Ac_remember hp) → F h := by rintro _ rfl; exact H0
  unfold p_Ac_remember at hP
  refine w_Ac_remember   ?_
  refine ⟨hP, ?_⟩
  refine ⟨fun hc_46 => ?_, fun hc_46 => ?_⟩
  · exact H _ (((if_pos hc_46).trans rfl)).symm
  · exact H _ (((if_neg hc_46).trans rfl)).symm
set_option maxHeartbeats 4000000 in
set_option maxRecDepth 20000 in
theorem w_Ac_takeBack {G : rx_Gh} {hp : rx_Hp} {F : Int32 → rx_Hp → Prop}  (H : ((hp.1 37 2) = 0 → F 0 hp) ∧ (¬ (hp.1 37 2) = 0 → p_Ha_readFrom_38 (((if (hp.1 37 1) ≤ 0 then 39 else ((hp.1 37 1) - 1)) : Int32) * 13) ∧ (F 1 (g_Ha_readFrom_38 (((if (hp.1 37 1) ≤ 0 then 39 else ((hp.1 37 1) - 1)) : Int32) * 13) (rx_pf (rx_pf hp 37 1 ((if (hp.1 37 1) ≤ 0 then 39 else ((hp.1 37 1) - 1)) : Int32)) 37 2 ((hp.1 37 2) - 1)))))) : Ev wC G 2 q_Ac_takeBack [.ref 37, .ref 3] hp (rI F) := by
  refine ev_of rfl (Nat.le_of_ble_eq_true rfl) rfl ?_
  show Rn wC G 2 q_Ac_takeBack 0 [some (.ref 37), some (.ref 3)] [] hp (rI F)
  refine r_aload_n (i := 0) d_Ac_takeBack_0 rfl rfl ?_
  refine r_getI (b := 37) (v := hp.1 37 2) d_Ac_takeBack_1 fl_Ac_25 (by decide) rfl rfl rfl ?_
  refine r_if_ne (tgt := 9) d_Ac_takeBack_4 (by decide) (fun hc_4 => ?_) (fun hc_4 => ?_)
  · replace H := H.2 hc_4
    have J14 : ∀ (v14_0 : Int32), v14_0 = ((if (hp.1 37 1) ≤ 0 then 39 else ((hp.1 37 1) - 1)) : Int32) → Rn wC G 2 q_Ac_takeBack 28 [some (.ref 37), some (.ref 3)] [.int v14_0, .ref 37] hp (rI F) := by
      rintro _ rfl
      refine r_putI (b := 37) d_Ac_takeBack_28 fp_Ac_17 ⟨rfl, rfl⟩ (by decide) rfl rfl ?_
      refine r_aload_n (i := 0) d_Ac_takeBack_31 rfl rfl ?_
      refine r_dupr d_Ac_takeBack_32 ?_
      refine r_getI (b := 37) (v := hp.1 37 2) d_Ac_takeBack_33 fl_Ac_25 (by decide) rfl rfl rfl ?_
      refine r_iconst d_Ac_takeBack_36 ic_1 ?_
      refine r_isub d_Ac_takeBack_37 ?_
      refine r_putI (b := 37) d_Ac_takeBack_38 fp_Ac_25 ⟨rfl, rfl⟩ (by decide) rfl rfl ?_
      refine r_aload_n (i := 1) d_Ac_takeBack_41 rfl rfl ?_
      refine r_aload_n (i := 0) d_Ac_takeBack_42 rfl rfl ?_
      refine r_getR (b := 37) (r := 38) d_Ac_takeBack_43 fl_Ac_11 (by decide) rfl rfl rfl ?_
      refine r_aload_n (i := 0) d_Ac_takeBack_46 rfl rfl ?_
      refine r_getI (b := 37) (v := ((if (hp.1 37 1) ≤ 0 then 39 else ((hp.1 37 1) - 1)) : Int32)) d_Ac_takeBack_47 fl_Ac_17 (by decide) rfl rfl rfl ?_
      refine r_bipush d_Ac_takeBack_50 bp_13 ?_
      refine r_imul d_Ac_takeBack_52 ?_
      obtain ⟨hp_53_0, H⟩ := H
      refine rk_VV (b := 3) (d' := 1) [.ref 38, .int (((if (hp.1 37 1) ≤ 0 then 39 else ((hp.1 37 1) - 1)) : Int32) * 13)] [] d_Ac_takeBack_53 ml_Ac_28 rfl rfl (by decide) (by decide) rfl rfl (Nat.le_of_ble_eq_true rfl) (s_Ha_readFrom_38 (((if (hp.1 37 1) ≤ 0 then 39 else ((hp.1 37 1) - 1)) : Int32) * 13) hp_53_0 ?_)
      refine r_iconst d_Ac_takeBack_56 ic_1 ?_
      exact rZ_ret d_Ac_takeBack_57 rfl (Or.inr rfl) H
    refine r_aload_n (i := 0) d_Ac_takeBack_9 rfl rfl ?_
    refine r_aload_n (i := 0) d_Ac_takeBack_10 rfl rfl ?_
    refine r_getI (b := 37) (v := hp.1 37 1) d_Ac_takeBack_11 fl_Ac_17 (by decide) rfl rfl rfl ?_
    refine r_if_le (tgt := 26) d_Ac_takeBack_14 (by decide) (fun hc_14 => ?_) (fun hc_14 => ?_)
    · refine r_bipush d_Ac_takeBack_26 bp_39 ?_
      exact J14 _ (((if_pos hc_14).trans rfl)).symm
    · refine r_aload_n (i := 0) d_Ac_takeBack_17 rfl rfl ?_
      refine r_getI (b := 37) (v := hp.1 37 1) d_Ac_takeBack_18 fl_Ac_17 (by decide) rfl rfl rfl ?_
      refine r_iconst d_Ac_takeBack_21 ic_1 ?_
      refine r_isub d_Ac_takeBack_22 ?_
      refine r_goto (tgt := 28) d_Ac_takeBack_23 (by decide) ?_
      exact J14 _ (((if_neg hc_14).trans rfl)).symm
  · replace H := H.1 hc_4
    refine r_iconst d_Ac_takeBack_7 ic_0 ?_
    exact rZ_ret d_Ac_takeBack_8 rfl (Or.inl rfl) H
def f_Ac_takeBack  (hp : rx_Hp) : Int32 := (if (hp.1 37 2) = 0 then 0 else 1)
def g_Ac_takeBack  (hp : rx_Hp) : rx_Hp := (if (hp.1 37 2) = 0 then hp else (g_Ha_readFrom_38 (((if (hp.1 37 1) ≤ 0 then 39 else ((hp.1 37 1) - 1)) : Int32) * 13) (rx_pf (rx_pf hp 37 1 ((if (hp.1 37 1) ≤ 0 then 39 else ((hp.1 37 1) - 1)) : Int32)) 37 2 ((hp.1 37 2) - 1))))
def p_Ac_takeBack  (hp : rx_Hp) : Prop := (¬ (hp.1 37 2) = 0 → p_Ha_readFrom_38 (((if (hp.1 37 1) ≤ 0 then 39 else ((hp.1 37 1) - 1)) : Int32) * 13))
theorem s_Ac_takeBack {G : rx_Gh} {hp : rx_Hp} {F : Int32 → rx_Hp → Prop}  (hP : (p_Ac_takeBack hp)) (H0 : F (f_Ac_takeBack hp) (g_Ac_takeBack hp)) : Ev wC G 2 q_Ac_takeBack [.ref 37, .ref 3] hp (rI F) := by
  have H : ∀ v h, v = (f_Ac_takeBack hp) → h = (g_Ac_takeBack hp) → F v h := by rintro _ _ rfl rfl; exact H0
  unfold p_Ac_takeBack at hP
  refine w_Ac_takeBack   ?_
  refine ⟨fun hc_4 => ?_, fun hc_4 => ?_⟩
  · exact H _ _ (((if_pos hc_4).trans rfl)).symm (((if_pos hc_4).trans rfl)).symm
  · refine ⟨(hP hc_4), ?_⟩
    exact H _ _ (((if_neg hc_4).trans rfl)).symm (((if_neg hc_4).trans rfl)).symm
theorem b_Ac_takeBack  (hp : rx_Hp) : (f_Ac_takeBack hp) = 0 ∨ (f_Ac_takeBack hp) = 1 := (rb_ite (Or.inl rfl) (Or.inr rfl))
set_option maxHeartbeats 4000000 in
set_option maxRecDepth 20000 in
theorem w_GR_undo {G : rx_Gh} {hp : rx_Hp} {F : Int32 → rx_Hp → Prop}  (H : p_Ac_takeBack hp ∧ (F ((if (f_Ac_takeBack hp) = 0 then (-1) else ((g_Ac_takeBack hp).1 37 2)) : Int32) (g_Ac_takeBack hp))) : Ev wC G 3 q_GR_undo [.ref 0] hp (rI F) := by
  refine ev_of rfl (Nat.le_of_ble_eq_true rfl) rfl ?_
  show Rn wC G 3 q_GR_undo 0 [some (.ref 0)] [] hp (rI F)
  refine r_aload_n (i := 0) d_GR_undo_0 rfl rfl ?_
  refine r_getR (b := 0) (r := 37) d_GR_undo_1 fl_GR_56 (by decide) rfl rfl rfl ?_
  refine r_aload_n (i := 0) d_GR_undo_4 rfl rfl ?_
  refine r_getR (b := 0) (r := 3) d_GR_undo_5 fl_GR_19 (by decide) rfl rfl rfl ?_
  obtain ⟨hp_8_0, H⟩ := H
  refine rk_VI (b := 37) (d' := 2) [.ref 3] [] d_GR_undo_8 ml_GR_188 rfl rfl (by decide) (by decide) rfl rfl (Nat.le_of_ble_eq_true rfl) (s_Ac_takeBack hp_8_0 ?_)
  have J11 : ∀ (v11_0 : Int32), v11_0 = ((if (f_Ac_takeBack hp) = 0 then (-1) else ((g_Ac_takeBack hp).1 37 2)) : Int32) → Rn wC G 3 q_GR_undo 25 [some (.ref 0)] [.int v11_0] (g_Ac_takeBack hp) (rI F) := by
    rintro _ rfl
    exact rI_ret d_GR_undo_25 rfl H
  refine r_if_eq (tgt := 24) d_GR_undo_11 (by decide) (fun hc_11 => ?_) (fun hc_11 => ?_)
  · refine r_iconst d_GR_undo_24 ic_m1 ?_
    exact J11 _ (((if_pos hc_11).trans rfl)).symm
  · refine r_aload_n (i := 0) d_GR_undo_14 rfl rfl ?_
    refine r_getR (b := 0) (r := 37) d_GR_undo_15 fl_GR_56 (by decide) rfl rfl rfl ?_
    refine r_getI (b := 37) (v := (g_Ac_takeBack hp).1 37 2) d_GR_undo_18 fl_GR_139 (by decide) rfl rfl rfl ?_
    refine r_goto (tgt := 25) d_GR_undo_21 (by decide) ?_
    exact J11 _ (((if_neg hc_11).trans rfl)).symm
def f_GR_undo  (hp : rx_Hp) : Int32 := ((if (f_Ac_takeBack hp) = 0 then (-1) else ((g_Ac_takeBack hp).1 37 2)) : Int32)
def g_GR_undo  (hp : rx_Hp) : rx_Hp := (g_Ac_takeBack hp)
def p_GR_undo  (hp : rx_Hp) : Prop := p_Ac_takeBack hp
theorem s_GR_undo {G : rx_Gh} {hp : rx_Hp} {F : Int32 → rx_Hp → Prop}  (hP : (p_GR_undo hp)) (H0 : F (f_GR_undo hp) (g_GR_undo hp)) : Ev wC G 3 q_GR_undo [.ref 0] hp (rI F) := by
  have H : ∀ v h, v = (f_GR_undo hp) → h = (g_GR_undo hp) → F v h := by rintro _ _ rfl rfl; exact H0
  unfold p_GR_undo at hP
  refine w_GR_undo   ?_
  refine ⟨hP, ?_⟩
  exact H _ _ (rfl).symm (rfl).symm
set_option maxHeartbeats 4000000 in
set_option maxRecDepth 20000 in
theorem w_GR_keep {G : rx_Gh} {hp : rx_Hp} {F : Int32 → rx_Hp → Prop}  (H : ((f_Ha_stands hp) = 0 → F (-1) hp) ∧ (¬ (f_Ha_stands hp) = 0 → p_Ha_writeTo_39 0 ∧ (F ((g_Ha_writeTo_39 0 hp).1 37 2) (rx_pf (g_Ha_writeTo_39 0 hp) 0 16 1)))) : Ev wC G 2 q_GR_keep [.ref 0] hp (rI F) := by
  refine ev_of rfl (Nat.le_of_ble_eq_true rfl) rfl ?_
  show Rn wC G 2 q_GR_keep 0 [some (.ref 0)] [] hp (rI F)
  refine r_aload_n (i := 0) d_GR_keep_0 rfl rfl ?_
  refine r_getR (b := 0) (r := 3) d_GR_keep_1 fl_GR_19 (by decide) rfl rfl rfl ?_
  refine rk_VI (b := 3) (d' := 1) [] [] d_GR_keep_4 ml_GR_171 rfl rfl (by decide) (by decide) rfl rfl (Nat.le_of_ble_eq_true rfl) (s_Ha_stands  ?_)
  refine r_if_ne (tgt := 12) d_GR_keep_7 (by decide) (fun hc_7 => ?_) (fun hc_7 => ?_)
  · replace H := H.2 hc_7
    refine r_aload_n (i := 0) d_GR_keep_12 rfl rfl ?_
    refine r_getR (b := 0) (r := 3) d_GR_keep_13 fl_GR_19 (by decide) rfl rfl rfl ?_
    refine r_aload_n (i := 0) d_GR_keep_16 rfl rfl ?_
    refine r_getR (b := 0) (r := 39) d_GR_keep_17 fl_GR_60 (by decide) rfl rfl rfl ?_
    refine r_iconst d_GR_keep_20 ic_0 ?_
    obtain ⟨hp_21_0, H⟩ := H
    refine rk_VV (b := 3) (d' := 1) [.ref 39, .int 0] [] d_GR_keep_21 ml_GR_329 rfl rfl (by decide) (by decide) rfl rfl (Nat.le_of_ble_eq_true rfl) (s_Ha_writeTo_39 0 hp_21_0 ?_)
    refine r_aload_n (i := 0) d_GR_keep_24 rfl rfl ?_
    refine r_iconst d_GR_keep_25 ic_1 ?_
    refine r_putI (b := 0) d_GR_keep_26 fp_GR_107 ⟨rfl, rfl⟩ (by decide) rfl rfl ?_
    refine r_aload_n (i := 0) d_GR_keep_29 rfl rfl ?_
    refine r_getR (b := 0) (r := 37) d_GR_keep_30 fl_GR_56 (by decide) rfl rfl rfl ?_
    refine r_getI (b := 37) (v := (g_Ha_writeTo_39 0 hp).1 37 2) d_GR_keep_33 fl_GR_139 (by decide) rfl rfl rfl ?_
    exact rI_ret d_GR_keep_36 rfl H
  · replace H := H.1 hc_7
    refine r_iconst d_GR_keep_10 ic_m1 ?_
    exact rI_ret d_GR_keep_11 rfl H
def f_GR_keep  (hp : rx_Hp) : Int32 := (if (f_Ha_stands hp) = 0 then (-1) else ((g_Ha_writeTo_39 0 hp).1 37 2))
def g_GR_keep  (hp : rx_Hp) : rx_Hp := (if (f_Ha_stands hp) = 0 then hp else (rx_pf (g_Ha_writeTo_39 0 hp) 0 16 1))
def p_GR_keep  (hp : rx_Hp) : Prop := (¬ (f_Ha_stands hp) = 0 → p_Ha_writeTo_39 0)
theorem s_GR_keep {G : rx_Gh} {hp : rx_Hp} {F : Int32 → rx_Hp → Prop}  (hP : (p_GR_keep hp)) (H0 : F (f_GR_keep hp) (g_GR_keep hp)) : Ev wC G 2 q_GR_keep [.ref 0] hp (rI F) := by
  have H : ∀ v h, v = (f_GR_keep hp) → h = (g_GR_keep hp) → F v h := by rintro _ _ rfl rfl; exact H0
  unfold p_GR_keep at hP
  refine w_GR_keep   ?_
  refine ⟨fun hc_7 => ?_, fun hc_7 => ?_⟩
  · exact H _ _ (((if_pos hc_7).trans rfl)).symm (((if_pos hc_7).trans rfl)).symm
  · refine ⟨(hP hc_7), ?_⟩
    exact H _ _ (((if_neg hc_7).trans rfl)).symm (((if_neg hc_7).trans rfl)).symm
set_option maxHeartbeats 4000000 in
set_option maxRecDepth 20000 in
theorem w_GR_back {G : rx_Gh} {hp : rx_Hp} {F : Int32 → rx_Hp → Prop}  (H : ((hp.1 0 16) = 0 → F (-1) hp) ∧ (¬ (hp.1 0 16) = 0 → p_Ha_readFrom_39 0 ∧ (F 0 (rx_pf (g_Ha_readFrom_39 0 hp) 37 2 0)))) : Ev wC G 2 q_GR_back [.ref 0] hp (rI F) := by
  refine ev_of rfl (Nat.le_of_ble_eq_true rfl) rfl ?_
  show Rn wC G 2 q_GR_back 0 [some (.ref 0)] [] hp (rI F)
  refine r_aload_n (i := 0) d_GR_back_0 rfl rfl ?_
  refine r_getI (b := 0) (v := hp.1 0 16) d_GR_back_1 fl_GR_107 (by decide) rfl rfl rfl ?_
  refine r_if_ne (tgt := 9) d_GR_back_4 (by decide) (fun hc_4 => ?_) (fun hc_4 => ?_)
  · replace H := H.2 hc_4
    refine r_aload_n (i := 0) d_GR_back_9 rfl rfl ?_
    refine r_getR (b := 0) (r := 3) d_GR_back_10 fl_GR_19 (by decide) rfl rfl rfl ?_
    refine r_aload_n (i := 0) d_GR_back_13 rfl rfl ?_
    refine r_getR (b := 0) (r := 39) d_GR_back_14 fl_GR_60 (by decide) rfl rfl rfl ?_
    refine r_iconst d_GR_back_17 ic_0 ?_
    obtain ⟨hp_18_0, H⟩ := H
    refine rk_VV (b := 3) (d' := 1) [.ref 39, .int 0] [] d_GR_back_18 ml_GR_333 rfl rfl (by decide) (by decide) rfl rfl (Nat.le_of_ble_eq_true rfl) (s_Ha_readFrom_39 0 hp_18_0 ?_)
    refine r_aload_n (i := 0) d_GR_back_21 rfl rfl ?_
    refine r_getR (b := 0) (r := 37) d_GR_back_22 fl_GR_56 (by decide) rfl rfl rfl ?_
    refine r_iconst d_GR_back_25 ic_0 ?_
    refine r_putI (b := 37) d_GR_back_26 fp_GR_139 ⟨rfl, rfl⟩ (by decide) rfl rfl ?_
    refine r_iconst d_GR_back_29 ic_0 ?_
    exact rI_ret d_GR_back_30 rfl H
  · replace H := H.1 hc_4
    refine r_iconst d_GR_back_7 ic_m1 ?_
    exact rI_ret d_GR_back_8 rfl H
def f_GR_back  (hp : rx_Hp) : Int32 := (if (hp.1 0 16) = 0 then (-1) else 0)
def g_GR_back  (hp : rx_Hp) : rx_Hp := (if (hp.1 0 16) = 0 then hp else (rx_pf (g_Ha_readFrom_39 0 hp) 37 2 0))
def p_GR_back  (hp : rx_Hp) : Prop := (¬ (hp.1 0 16) = 0 → p_Ha_readFrom_39 0)
theorem s_GR_back {G : rx_Gh} {hp : rx_Hp} {F : Int32 → rx_Hp → Prop}  (hP : (p_GR_back hp)) (H0 : F (f_GR_back hp) (g_GR_back hp)) : Ev wC G 2 q_GR_back [.ref 0] hp (rI F) := by
  have H : ∀ v h, v = (f_GR_back hp) → h = (g_GR_back hp) → F v h := by rintro _ _ rfl rfl; exact H0
  unfold p_GR_back at hP
  refine w_GR_back   ?_
  refine ⟨fun hc_4 => ?_, fun hc_4 => ?_⟩
  · exact H _ _ (((if_pos hc_4).trans rfl)).symm (((if_pos hc_4).trans rfl)).symm
  · refine ⟨(hP hc_4), ?_⟩
    exact H _ _ (((if_neg hc_4).trans rfl)).symm (((if_neg hc_4).trans rfl)).symm
set_option maxHeartbeats 4000000 in
set_option maxRecDepth 20000 in
theorem w_M_keepAct {G : rx_Gh} {hp : rx_Hp} {F : rx_Hp → Prop}  (H : ((hp.1 0 30) = 40 → Rn wM G 2 q_M_keepAct 12 [some (.ref 0), some (.int 13)] [] hp (rV F)) ∧ (¬ (hp.1 0 30) = 40 → p_M_write_16 (13 * (hp.1 0 30)) ∧ (F (rx_pf (g_M_write_16 (13 * (hp.1 0 30)) hp) 0 30 (((g_M_write_16 (13 * (hp.1 0 30)) hp).1 0 30) + 1))))) : Ev wM G 2 q_M_keepAct [.ref 0] hp (rV F) := by
  refine ev_of rfl (Nat.le_of_ble_eq_true rfl) rfl ?_
  show Rn wM G 2 q_M_keepAct 0 [some (.ref 0), none] [] hp (rV F)
  refine r_aload_n (i := 0) d_M_keepAct_0 rfl rfl ?_
  refine r_getI (b := 0) (v := hp.1 0 30) d_M_keepAct_1 fl_M_254 (by decide) rfl rfl rfl ?_
  refine r_bipush d_M_keepAct_4 bp_40 ?_
  refine r_icmp_ne (tgt := 50) d_M_keepAct_6 (by decide) (fun hc_6 => ?_) (fun hc_6 => ?_)
  · replace H := H.2 hc_6
    refine r_aload_n (i := 0) d_M_keepAct_50 rfl rfl ?_
    refine r_aload_n (i := 0) d_M_keepAct_51 rfl rfl ?_
    refine r_getR (b := 0) (r := 16) d_M_keepAct_52 fl_M_59 (by decide) rfl rfl rfl ?_
    refine r_bipush d_M_keepAct_55 bp_13 ?_
    refine r_aload_n (i := 0) d_M_keepAct_57 rfl rfl ?_
    refine r_getI (b := 0) (v := hp.1 0 30) d_M_keepAct_58 fl_M_254 (by decide) rfl rfl rfl ?_
    refine r_imul d_M_keepAct_61 ?_
    obtain ⟨hp_62_0, H⟩ := H
    refine rk_VV (b := 0) (d' := 1) [.ref 16, .int (13 * (hp.1 0 30))] [] d_M_keepAct_62 ml_M_270 rfl rfl (by decide) (by decide) rfl rfl (Nat.le_of_ble_eq_true rfl) (s_M_write_16 (13 * (hp.1 0 30)) hp_62_0 ?_)
    refine r_aload_n (i := 0) d_M_keepAct_65 rfl rfl ?_
    refine r_dupr d_M_keepAct_66 ?_
    refine r_getI (b := 0) (v := (g_M_write_16 (13 * (hp.1 0 30)) hp).1 0 30) d_M_keepAct_67 fl_M_254 (by decide) rfl rfl rfl ?_
    refine r_iconst d_M_keepAct_70 ic_1 ?_
    refine r_iadd d_M_keepAct_71 ?_
    refine r_putI (b := 0) d_M_keepAct_72 fp_M_254 ⟨rfl, rfl⟩ (by decide) rfl rfl ?_
    exact rV_ret d_M_keepAct_75 rfl H
  · replace H := H.1 hc_6
    refine r_bipush d_M_keepAct_9 bp_13 ?_
    refine r_istore_n (i := 1) (lz := [some (.ref 0), some (.int 13)]) d_M_keepAct_11 rfl (by decide) rfl rfl ?_
    exact H
set_option maxHeartbeats 4000000 in
set_option maxRecDepth 20000 in
theorem w_M_keepAct_12 {G : rx_Gh} {hp : rx_Hp} {F : rx_Hp → Prop} (x1 : Int32) (H : (520 ≤ x1 → p_M_write_16 (13 * ((hp.1 0 30) - 1)) ∧ (F (rx_pf (g_M_write_16 (13 * ((hp.1 0 30) - 1)) (rx_pf hp 0 30 ((hp.1 0 30) - 1))) 0 30 (((g_M_write_16 (13 * ((hp.1 0 30) - 1)) (rx_pf hp 0 30 ((hp.1 0 30) - 1))).1 0 30) + 1)))) ∧ (¬ 520 ≤ x1 → vp_in x1 520 ∧ (vp_in (x1 - 13) 520 ∧ (Rn wM G 2 q_M_keepAct 12 [some (.ref 0), some (.int (x1 + 1))] [] (rx_pa hp 16 ((x1 - 13).toNatClampNeg) (hp.2.1 16 x1.toNatClampNeg)) (rV F))))) : Rn wM G 2 q_M_keepAct 12 [some (.ref 0), some (.int x1)] [] hp (rV F) := by
  refine r_iload_n (i := 1) d_M_keepAct_12 rfl rfl ?_
  refine r_sipush d_M_keepAct_13 sp_520 ?_
  refine r_icmp_ge (tgt := 40) d_M_keepAct_16 (by decide) (fun hc_16 => ?_) (fun hc_16 => ?_)
  · replace H := H.1 hc_16
    refine r_aload_n (i := 0) d_M_keepAct_40 rfl rfl ?_
    refine r_dupr d_M_keepAct_41 ?_
    refine r_getI (b := 0) (v := hp.1 0 30) d_M_keepAct_42 fl_M_254 (by decide) rfl rfl rfl ?_
    refine r_iconst d_M_keepAct_45 ic_1 ?_
    refine r_isub d_M_keepAct_46 ?_
    refine r_putI (b := 0) d_M_keepAct_47 fp_M_254 ⟨rfl, rfl⟩ (by decide) rfl rfl ?_
    refine r_aload_n (i := 0) d_M_keepAct_50 rfl rfl ?_
    refine r_aload_n (i := 0) d_M_keepAct_51 rfl rfl ?_
    refine r_getR (b := 0) (r := 16) d_M_keepAct_52 fl_M_59 (by decide) rfl rfl rfl ?_
    refine r_bipush d_M_keepAct_55 bp_13 ?_
    refine r_aload_n (i := 0) d_M_keepAct_57 rfl rfl ?_
    refine r_getI (b := 0) (v := ((hp.1 0 30) - 1)) d_M_keepAct_58 fl_M_254 (by decide) rfl rfl rfl ?_
    refine r_imul d_M_keepAct_61 ?_
    obtain ⟨hp_62_0, H⟩ := H
    refine rk_VV (b := 0) (d' := 1) [.ref 16, .int (13 * ((hp.1 0 30) - 1))] [] d_M_keepAct_62 ml_M_270 rfl rfl (by decide) (by decide) rfl rfl (Nat.le_of_ble_eq_true rfl) (s_M_write_16 (13 * ((hp.1 0 30) - 1)) hp_62_0 ?_)
    refine r_aload_n (i := 0) d_M_keepAct_65 rfl rfl ?_
    refine r_dupr d_M_keepAct_66 ?_
    refine r_getI (b := 0) (v := (g_M_write_16 (13 * ((hp.1 0 30) - 1)) (rx_pf hp 0 30 ((hp.1 0 30) - 1))).1 0 30) d_M_keepAct_67 fl_M_254 (by decide) rfl rfl rfl ?_
    refine r_iconst d_M_keepAct_70 ic_1 ?_
    refine r_iadd d_M_keepAct_71 ?_
    refine r_putI (b := 0) d_M_keepAct_72 fp_M_254 ⟨rfl, rfl⟩ (by decide) rfl rfl ?_
    exact rV_ret d_M_keepAct_75 rfl H
  · replace H := H.2 hc_16
    refine r_aload_n (i := 0) d_M_keepAct_19 rfl rfl ?_
    refine r_getR (b := 0) (r := 16) d_M_keepAct_20 fl_M_59 (by decide) rfl rfl rfl ?_
    refine r_iload_n (i := 1) d_M_keepAct_23 rfl rfl ?_
    refine r_bipush d_M_keepAct_24 bp_13 ?_
    refine r_isub d_M_keepAct_26 ?_
    refine r_aload_n (i := 0) d_M_keepAct_27 rfl rfl ?_
    refine r_getR (b := 0) (r := 16) d_M_keepAct_28 fl_M_59 (by decide) rfl rfl rfl ?_
    refine r_iload_n (i := 1) d_M_keepAct_31 rfl rfl ?_
    obtain ⟨hi_32, H⟩ := H
    refine r_iald (b := 16) (v := hp.2.1 16 x1.toNatClampNeg) d_M_keepAct_32 (by decide) rfl hi_32 rfl ?_
    obtain ⟨hi_33, H⟩ := H
    refine r_iast (b := 16) (i := (x1 - 13).toNatClampNeg) d_M_keepAct_33 (by decide) rfl hi_33 rfl ?_
    refine r_iinc (v := x1 + 1) (lz := [some (.ref 0), some (.int (x1 + 1))]) d_M_keepAct_34 rfl (by rw [ic_1]) (by decide) rfl rfl ?_
    refine r_goto (tgt := 12) d_M_keepAct_37 (by decide) ?_
    exact H
set_option maxHeartbeats 4000000 in
set_option maxRecDepth 20000 in
theorem w_M_undo {G : rx_Gh} {hp : rx_Hp} {F : Int32 → rx_Hp → Prop}  (H : ((hp.1 0 30) = 0 → F (-1) hp) ∧ (¬ (hp.1 0 30) = 0 → p_M_read_16 (13 * ((hp.1 0 30) - 1)) ∧ (F ((g_M_read_16 (13 * ((hp.1 0 30) - 1)) (rx_pf hp 0 30 ((hp.1 0 30) - 1))).1 0 30) (g_M_read_16 (13 * ((hp.1 0 30) - 1)) (rx_pf hp 0 30 ((hp.1 0 30) - 1)))))) : Ev wM G 2 q_M_undo [.ref 0] hp (rI F) := by
  refine ev_of rfl (Nat.le_of_ble_eq_true rfl) rfl ?_
  show Rn wM G 2 q_M_undo 0 [some (.ref 0)] [] hp (rI F)
  refine r_aload_n (i := 0) d_M_undo_0 rfl rfl ?_
  refine r_getI (b := 0) (v := hp.1 0 30) d_M_undo_1 fl_M_254 (by decide) rfl rfl rfl ?_
  refine r_if_ne (tgt := 9) d_M_undo_4 (by decide) (fun hc_4 => ?_) (fun hc_4 => ?_)
  · replace H := H.2 hc_4
    refine r_aload_n (i := 0) d_M_undo_9 rfl rfl ?_
    refine r_dupr d_M_undo_10 ?_
    refine r_getI (b := 0) (v := hp.1 0 30) d_M_undo_11 fl_M_254 (by decide) rfl rfl rfl ?_
    refine r_iconst d_M_undo_14 ic_1 ?_
    refine r_isub d_M_undo_15 ?_
    refine r_putI (b := 0) d_M_undo_16 fp_M_254 ⟨rfl, rfl⟩ (by decide) rfl rfl ?_
    refine r_aload_n (i := 0) d_M_undo_19 rfl rfl ?_
    refine r_aload_n (i := 0) d_M_undo_20 rfl rfl ?_
    refine r_getR (b := 0) (r := 16) d_M_undo_21 fl_M_59 (by decide) rfl rfl rfl ?_
    refine r_bipush d_M_undo_24 bp_13 ?_
    refine r_aload_n (i := 0) d_M_undo_26 rfl rfl ?_
    refine r_getI (b := 0) (v := ((hp.1 0 30) - 1)) d_M_undo_27 fl_M_254 (by decide) rfl rfl rfl ?_
    refine r_imul d_M_undo_30 ?_
    obtain ⟨hp_31_0, H⟩ := H
    refine rk_VV (b := 0) (d' := 1) [.ref 16, .int (13 * ((hp.1 0 30) - 1))] [] d_M_undo_31 ml_M_286 rfl rfl (by decide) (by decide) rfl rfl (Nat.le_of_ble_eq_true rfl) (s_M_read_16 (13 * ((hp.1 0 30) - 1)) hp_31_0 ?_)
    refine r_aload_n (i := 0) d_M_undo_34 rfl rfl ?_
    refine r_getI (b := 0) (v := (g_M_read_16 (13 * ((hp.1 0 30) - 1)) (rx_pf hp 0 30 ((hp.1 0 30) - 1))).1 0 30) d_M_undo_35 fl_M_254 (by decide) rfl rfl rfl ?_
    exact rI_ret d_M_undo_38 rfl H
  · replace H := H.1 hc_4
    refine r_iconst d_M_undo_7 ic_m1 ?_
    exact rI_ret d_M_undo_8 rfl H
def f_M_undo  (hp : rx_Hp) : Int32 := (if (hp.1 0 30) = 0 then (-1) else ((g_M_read_16 (13 * ((hp.1 0 30) - 1)) (rx_pf hp 0 30 ((hp.1 0 30) - 1))).1 0 30))
def g_M_undo  (hp : rx_Hp) : rx_Hp := (if (hp.1 0 30) = 0 then hp else (g_M_read_16 (13 * ((hp.1 0 30) - 1)) (rx_pf hp 0 30 ((hp.1 0 30) - 1))))
def p_M_undo  (hp : rx_Hp) : Prop := (¬ (hp.1 0 30) = 0 → p_M_read_16 (13 * ((hp.1 0 30) - 1)))
theorem s_M_undo {G : rx_Gh} {hp : rx_Hp} {F : Int32 → rx_Hp → Prop}  (hP : (p_M_undo hp)) (H0 : F (f_M_undo hp) (g_M_undo hp)) : Ev wM G 2 q_M_undo [.ref 0] hp (rI F) := by
  have H : ∀ v h, v = (f_M_undo hp) → h = (g_M_undo hp) → F v h := by rintro _ _ rfl rfl; exact H0
  unfold p_M_undo at hP
  refine w_M_undo   ?_
  refine ⟨fun hc_4 => ?_, fun hc_4 => ?_⟩
  · exact H _ _ (((if_pos hc_4).trans rfl)).symm (((if_pos hc_4).trans rfl)).symm
  · refine ⟨(hP hc_4), ?_⟩
    exact H _ _ (((if_neg hc_4).trans rfl)).symm (((if_neg hc_4).trans rfl)).symm
set_option maxHeartbeats 4000000 in
set_option maxRecDepth 20000 in
theorem w_M_keep {G : rx_Gh} {hp : rx_Hp} {F : Int32 → rx_Hp → Prop}  (H : ((hp.1 0 23) = 0 → F (-1) hp) ∧ (¬ (hp.1 0 23) = 0 → p_M_write_23 0 ∧ (F ((g_M_write_23 0 hp).1 0 30) (rx_pf (g_M_write_23 0 hp) 0 44 1)))) : Ev wM G 2 q_M_keep [.ref 0] hp (rI F) := by
  refine ev_of rfl (Nat.le_of_ble_eq_true rfl) rfl ?_
  show Rn wM G 2 q_M_keep 0 [some (.ref 0)] [] hp (rI F)
  refine r_aload_n (i := 0) d_M_keep_0 rfl rfl ?_
  refine r_getI (b := 0) (v := hp.1 0 23) d_M_keep_1 fl_M_236 (by decide) rfl rfl rfl ?_
  refine r_if_ne (tgt := 9) d_M_keep_4 (by decide) (fun hc_4 => ?_) (fun hc_4 => ?_)
  · replace H := H.2 hc_4
    refine r_aload_n (i := 0) d_M_keep_9 rfl rfl ?_
    refine r_aload_n (i := 0) d_M_keep_10 rfl rfl ?_
    refine r_getR (b := 0) (r := 23) d_M_keep_11 fl_M_80 (by decide) rfl rfl rfl ?_
    refine r_iconst d_M_keep_14 ic_0 ?_
    obtain ⟨hp_15_0, H⟩ := H
    refine rk_VV (b := 0) (d' := 1) [.ref 23, .int 0] [] d_M_keep_15 ml_M_270 rfl rfl (by decide) (by decide) rfl rfl (Nat.le_of_ble_eq_true rfl) (s_M_write_23 0 hp_15_0 ?_)
    refine r_aload_n (i := 0) d_M_keep_18 rfl rfl ?_
    refine r_iconst d_M_keep_19 ic_1 ?_
    refine r_putI (b := 0) d_M_keep_20 fp_M_257 ⟨rfl, rfl⟩ (by decide) rfl rfl ?_
    refine r_aload_n (i := 0) d_M_keep_23 rfl rfl ?_
    refine r_getI (b := 0) (v := (g_M_write_23 0 hp).1 0 30) d_M_keep_24 fl_M_254 (by decide) rfl rfl rfl ?_
    exact rI_ret d_M_keep_27 rfl H
  · replace H := H.1 hc_4
    refine r_iconst d_M_keep_7 ic_m1 ?_
    exact rI_ret d_M_keep_8 rfl H
def f_M_keep  (hp : rx_Hp) : Int32 := (if (hp.1 0 23) = 0 then (-1) else ((g_M_write_23 0 hp).1 0 30))
def g_M_keep  (hp : rx_Hp) : rx_Hp := (if (hp.1 0 23) = 0 then hp else (rx_pf (g_M_write_23 0 hp) 0 44 1))
def p_M_keep  (hp : rx_Hp) : Prop := (¬ (hp.1 0 23) = 0 → p_M_write_23 0)
theorem s_M_keep {G : rx_Gh} {hp : rx_Hp} {F : Int32 → rx_Hp → Prop}  (hP : (p_M_keep hp)) (H0 : F (f_M_keep hp) (g_M_keep hp)) : Ev wM G 2 q_M_keep [.ref 0] hp (rI F) := by
  have H : ∀ v h, v = (f_M_keep hp) → h = (g_M_keep hp) → F v h := by rintro _ _ rfl rfl; exact H0
  unfold p_M_keep at hP
  refine w_M_keep   ?_
  refine ⟨fun hc_4 => ?_, fun hc_4 => ?_⟩
  · exact H _ _ (((if_pos hc_4).trans rfl)).symm (((if_pos hc_4).trans rfl)).symm
  · refine ⟨(hP hc_4), ?_⟩
    exact H _ _ (((if_neg hc_4).trans rfl)).symm (((if_neg hc_4).trans rfl)).symm
set_option maxHeartbeats 4000000 in
set_option maxRecDepth 20000 in
theorem w_M_back {G : rx_Gh} {hp : rx_Hp} {F : Int32 → rx_Hp → Prop}  (H : ((hp.1 0 44) = 0 → F (-1) hp) ∧ (¬ (hp.1 0 44) = 0 → p_M_read_23 0 ∧ (F 0 (rx_pf (g_M_read_23 0 hp) 0 30 0)))) : Ev wM G 2 q_M_back [.ref 0] hp (rI F) := by
  refine ev_of rfl (Nat.le_of_ble_eq_true rfl) rfl ?_
  show Rn wM G 2 q_M_back 0 [some (.ref 0)] [] hp (rI F)
  refine r_aload_n (i := 0) d_M_back_0 rfl rfl ?_
  refine r_getI (b := 0) (v := hp.1 0 44) d_M_back_1 fl_M_257 (by decide) rfl rfl rfl ?_
  refine r_if_ne (tgt := 9) d_M_back_4 (by decide) (fun hc_4 => ?_) (fun hc_4 => ?_)
  · replace H := H.2 hc_4
    refine r_aload_n (i := 0) d_M_back_9 rfl rfl ?_
    refine r_aload_n (i := 0) d_M_back_10 rfl rfl ?_
    refine r_getR (b := 0) (r := 23) d_M_back_11 fl_M_80 (by decide) rfl rfl rfl ?_
    refine r_iconst d_M_back_14 ic_0 ?_
    obtain ⟨hp_15_0, H⟩ := H
    refine rk_VV (b := 0) (d' := 1) [.ref 23, .int 0] [] d_M_back_15 ml_M_286 rfl rfl (by decide) (by decide) rfl rfl (Nat.le_of_ble_eq_true rfl) (s_M_read_23 0 hp_15_0 ?_)
    refine r_aload_n (i := 0) d_M_back_18 rfl rfl ?_
    refine r_iconst d_M_back_19 ic_0 ?_
    refine r_putI (b := 0) d_M_back_20 fp_M_254 ⟨rfl, rfl⟩ (by decide) rfl rfl ?_
    refine r_iconst d_M_back_23 ic_0 ?_
    exact rI_ret d_M_back_24 rfl H
  · replace H := H.1 hc_4
    refine r_iconst d_M_back_7 ic_m1 ?_
    exact rI_ret d_M_back_8 rfl H
def f_M_back  (hp : rx_Hp) : Int32 := (if (hp.1 0 44) = 0 then (-1) else 0)
def g_M_back  (hp : rx_Hp) : rx_Hp := (if (hp.1 0 44) = 0 then hp else (rx_pf (g_M_read_23 0 hp) 0 30 0))
def p_M_back  (hp : rx_Hp) : Prop := (¬ (hp.1 0 44) = 0 → p_M_read_23 0)
theorem s_M_back {G : rx_Gh} {hp : rx_Hp} {F : Int32 → rx_Hp → Prop}  (hP : (p_M_back hp)) (H0 : F (f_M_back hp) (g_M_back hp)) : Ev wM G 2 q_M_back [.ref 0] hp (rI F) := by
  have H : ∀ v h, v = (f_M_back hp) → h = (g_M_back hp) → F v h := by rintro _ _ rfl rfl; exact H0
  unfold p_M_back at hP
  refine w_M_back   ?_
  refine ⟨fun hc_4 => ?_, fun hc_4 => ?_⟩
  · exact H _ _ (((if_pos hc_4).trans rfl)).symm (((if_pos hc_4).trans rfl)).symm
  · refine ⟨(hP hc_4), ?_⟩
    exact H _ _ (((if_neg hc_4).trans rfl)).symm (((if_neg hc_4).trans rfl)).symm
set_option maxHeartbeats 4000000 in
set_option maxRecDepth 20000 in
theorem w_GR_move {G : rx_Gh} {hp : rx_Hp} {F : Int32 → rx_Hp → Prop} (a1 : Int32) (a2 : Int32) (a3 : Int32) (H : ((f_Ha_has a1 hp) = 0 → F (-1) hp) ∧ (¬ (f_Ha_has a1 hp) = 0 → ((f_Ha_isInside a2 a3 hp) = 0 → F (-1) hp) ∧ (¬ (f_Ha_isInside a2 a3 hp) = 0 → vp_in a1 6 ∧ (((hp.2.1 4 a1.toNatClampNeg) = a2 → ((hp.2.1 5 a1.toNatClampNeg) = a3 → F (-1) hp) ∧ (¬ (hp.2.1 5 a1.toNatClampNeg) = a3 → p_Ac_remember hp ∧ (F ((g_Ac_remember hp).1 37 2) (rx_pa (rx_pa (g_Ac_remember hp) 4 a1.toNatClampNeg a2) 5 a1.toNatClampNeg a3)))) ∧ (¬ (hp.2.1 4 a1.toNatClampNeg) = a2 → p_Ac_remember hp ∧ (F ((g_Ac_remember hp).1 37 2) (rx_pa (rx_pa (g_Ac_remember hp) 4 a1.toNatClampNeg a2) 5 a1.toNatClampNeg a3))))))) : Ev wC G 3 q_GR_move [.ref 0, .int a1, .int a2, .int a3] hp (rI F) := by
  refine ev_of rfl (Nat.le_of_ble_eq_true rfl) rfl ?_
  show Rn wC G 3 q_GR_move 0 [some (.ref 0), some (.int a1), some (.int a2), some (.int a3)] [] hp (rI F)
  refine r_aload_n (i := 0) d_GR_move_0 rfl rfl ?_
  refine r_getR (b := 0) (r := 3) d_GR_move_1 fl_GR_19 (by decide) rfl rfl rfl ?_
  refine r_iload_n (i := 1) d_GR_move_4 rfl rfl ?_
  refine rk_VI (b := 3) (d' := 1) [.int a1] [] d_GR_move_5 ml_GR_144 rfl rfl (by decide) (by decide) rfl rfl (Nat.le_of_ble_eq_true rfl) (s_Ha_has a1 ?_)
  refine r_if_eq (tgt := 49) d_GR_move_8 (by decide) (fun hc_8 => ?_) (fun hc_8 => ?_)
  · replace H := H.1 hc_8
    refine r_iconst d_GR_move_49 ic_m1 ?_
    exact rI_ret d_GR_move_50 rfl H
  · replace H := H.2 hc_8
    refine r_aload_n (i := 0) d_GR_move_11 rfl rfl ?_
    refine r_getR (b := 0) (r := 3) d_GR_move_12 fl_GR_19 (by decide) rfl rfl rfl ?_
    refine r_iload_n (i := 2) d_GR_move_15 rfl rfl ?_
    refine r_iload_n (i := 3) d_GR_move_16 rfl rfl ?_
    refine rk_VI (b := 3) (d' := 1) [.int a2, .int a3] [] d_GR_move_17 ml_GR_164 rfl rfl (by decide) (by decide) rfl rfl (Nat.le_of_ble_eq_true rfl) (s_Ha_isInside a2 a3 ?_)
    refine r_if_eq (tgt := 49) d_GR_move_20 (by decide) (fun hc_20 => ?_) (fun hc_20 => ?_)
    · replace H := H.1 hc_20
      refine r_iconst d_GR_move_49 ic_m1 ?_
      exact rI_ret d_GR_move_50 rfl H
    · replace H := H.2 hc_20
      refine r_aload_n (i := 0) d_GR_move_23 rfl rfl ?_
      refine r_getR (b := 0) (r := 3) d_GR_move_24 fl_GR_19 (by decide) rfl rfl rfl ?_
      refine r_getR (b := 3) (r := 4) d_GR_move_27 fl_GR_155 (by decide) rfl rfl rfl ?_
      refine r_iload_n (i := 1) d_GR_move_30 rfl rfl ?_
      obtain ⟨hi_31, H⟩ := H
      refine r_iald (b := 4) (v := hp.2.1 4 a1.toNatClampNeg) d_GR_move_31 (by decide) rfl hi_31 rfl ?_
      refine r_iload_n (i := 2) d_GR_move_32 rfl rfl ?_
      refine r_icmp_ne (tgt := 51) d_GR_move_33 (by decide) (fun hc_33 => ?_) (fun hc_33 => ?_)
      · replace H := H.2 hc_33
        refine r_aload_n (i := 0) d_GR_move_51 rfl rfl ?_
        refine r_getR (b := 0) (r := 37) d_GR_move_52 fl_GR_56 (by decide) rfl rfl rfl ?_
        refine r_aload_n (i := 0) d_GR_move_55 rfl rfl ?_
        refine r_getR (b := 0) (r := 3) d_GR_move_56 fl_GR_19 (by decide) rfl rfl rfl ?_
        obtain ⟨hp_59_0, H⟩ := H
        refine rk_VV (b := 37) (d' := 2) [.ref 3] [] d_GR_move_59 ml_GR_168 rfl rfl (by decide) (by decide) rfl rfl (Nat.le_of_ble_eq_true rfl) (s_Ac_remember hp_59_0 ?_)
        refine r_aload_n (i := 0) d_GR_move_62 rfl rfl ?_
        refine r_getR (b := 0) (r := 3) d_GR_move_63 fl_GR_19 (by decide) rfl rfl rfl ?_
        refine r_getR (b := 3) (r := 4) d_GR_move_66 fl_GR_155 (by decide) rfl rfl rfl ?_
        refine r_iload_n (i := 1) d_GR_move_69 rfl rfl ?_
        refine r_iload_n (i := 2) d_GR_move_70 rfl rfl ?_
        refine r_iast (b := 4) (i := a1.toNatClampNeg) d_GR_move_71 (by decide) rfl hi_31 rfl ?_
        refine r_aload_n (i := 0) d_GR_move_72 rfl rfl ?_
        refine r_getR (b := 0) (r := 3) d_GR_move_73 fl_GR_19 (by decide) rfl rfl rfl ?_
        refine r_getR (b := 3) (r := 5) d_GR_move_76 fl_GR_158 (by decide) rfl rfl rfl ?_
        refine r_iload_n (i := 1) d_GR_move_79 rfl rfl ?_
        refine r_iload_n (i := 3) d_GR_move_80 rfl rfl ?_
        refine r_iast (b := 5) (i := a1.toNatClampNeg) d_GR_move_81 (by decide) rfl hi_31 rfl ?_
        refine r_aload_n (i := 0) d_GR_move_82 rfl rfl ?_
        refine r_getR (b := 0) (r := 37) d_GR_move_83 fl_GR_56 (by decide) rfl rfl rfl ?_
        refine r_getI (b := 37) (v := (g_Ac_remember hp).1 37 2) d_GR_move_86 fl_GR_139 (by decide) rfl rfl rfl ?_
        exact rI_ret d_GR_move_89 rfl H
      · replace H := H.1 hc_33
        refine r_aload_n (i := 0) d_GR_move_36 rfl rfl ?_
        refine r_getR (b := 0) (r := 3) d_GR_move_37 fl_GR_19 (by decide) rfl rfl rfl ?_
        refine r_getR (b := 3) (r := 5) d_GR_move_40 fl_GR_158 (by decide) rfl rfl rfl ?_
        refine r_iload_n (i := 1) d_GR_move_43 rfl rfl ?_
        refine r_iald (b := 5) (v := hp.2.1 5 a1.toNatClampNeg) d_GR_move_44 (by decide) rfl hi_31 rfl ?_
        refine r_iload_n (i := 3) d_GR_move_45 rfl rfl ?_
        refine r_icmp_ne (tgt := 51) d_GR_move_46 (by decide) (fun hc_46 => ?_) (fun hc_46 => ?_)
        · replace H := H.2 hc_46
          refine r_aload_n (i := 0) d_GR_move_51 rfl rfl ?_
          refine r_getR (b := 0) (r := 37) d_GR_move_52 fl_GR_56 (by decide) rfl rfl rfl ?_
          refine r_aload_n (i := 0) d_GR_move_55 rfl rfl ?_
          refine r_getR (b := 0) (r := 3) d_GR_move_56 fl_GR_19 (by decide) rfl rfl rfl ?_
          obtain ⟨hp_59_0, H⟩ := H
          refine rk_VV (b := 37) (d' := 2) [.ref 3] [] d_GR_move_59 ml_GR_168 rfl rfl (by decide) (by decide) rfl rfl (Nat.le_of_ble_eq_true rfl) (s_Ac_remember hp_59_0 ?_)
          refine r_aload_n (i := 0) d_GR_move_62 rfl rfl ?_
          refine r_getR (b := 0) (r := 3) d_GR_move_63 fl_GR_19 (by decide) rfl rfl rfl ?_
          refine r_getR (b := 3) (r := 4) d_GR_move_66 fl_GR_155 (by decide) rfl rfl rfl ?_
          refine r_iload_n (i := 1) d_GR_move_69 rfl rfl ?_
          refine r_iload_n (i := 2) d_GR_move_70 rfl rfl ?_
          refine r_iast (b := 4) (i := a1.toNatClampNeg) d_GR_move_71 (by decide) rfl hi_31 rfl ?_
          refine r_aload_n (i := 0) d_GR_move_72 rfl rfl ?_
          refine r_getR (b := 0) (r := 3) d_GR_move_73 fl_GR_19 (by decide) rfl rfl rfl ?_
          refine r_getR (b := 3) (r := 5) d_GR_move_76 fl_GR_158 (by decide) rfl rfl rfl ?_
          refine r_iload_n (i := 1) d_GR_move_79 rfl rfl ?_
          refine r_iload_n (i := 3) d_GR_move_80 rfl rfl ?_
          refine r_iast (b := 5) (i := a1.toNatClampNeg) d_GR_move_81 (by decide) rfl hi_31 rfl ?_
          refine r_aload_n (i := 0) d_GR_move_82 rfl rfl ?_
          refine r_getR (b := 0) (r := 37) d_GR_move_83 fl_GR_56 (by decide) rfl rfl rfl ?_
          refine r_getI (b := 37) (v := (g_Ac_remember hp).1 37 2) d_GR_move_86 fl_GR_139 (by decide) rfl rfl rfl ?_
          exact rI_ret d_GR_move_89 rfl H
        · replace H := H.1 hc_46
          refine r_iconst d_GR_move_49 ic_m1 ?_
          exact rI_ret d_GR_move_50 rfl H
def f_GR_move (a1 : Int32) (a2 : Int32) (a3 : Int32) (hp : rx_Hp) : Int32 := (if (f_Ha_has a1 hp) = 0 then (-1) else (if (f_Ha_isInside a2 a3 hp) = 0 then (-1) else (if (hp.2.1 4 a1.toNatClampNeg) = a2 then (if (hp.2.1 5 a1.toNatClampNeg) = a3 then (-1) else ((g_Ac_remember hp).1 37 2)) else ((g_Ac_remember hp).1 37 2))))
def g_GR_move (a1 : Int32) (a2 : Int32) (a3 : Int32) (hp : rx_Hp) : rx_Hp := (if (f_Ha_has a1 hp) = 0 then hp else (if (f_Ha_isInside a2 a3 hp) = 0 then hp else (if (hp.2.1 4 a1.toNatClampNeg) = a2 then (if (hp.2.1 5 a1.toNatClampNeg) = a3 then hp else (rx_pa (rx_pa (g_Ac_remember hp) 4 a1.toNatClampNeg a2) 5 a1.toNatClampNeg a3)) else (rx_pa (rx_pa (g_Ac_remember hp) 4 a1.toNatClampNeg a2) 5 a1.toNatClampNeg a3))))
def p_GR_move (a1 : Int32) (a2 : Int32) (a3 : Int32) (hp : rx_Hp) : Prop := (¬ (f_Ha_has a1 hp) = 0 → (¬ (f_Ha_isInside a2 a3 hp) = 0 → vp_in a1 6 ∧ (((hp.2.1 4 a1.toNatClampNeg) = a2 → (¬ (hp.2.1 5 a1.toNatClampNeg) = a3 → p_Ac_remember hp)) ∧ (¬ (hp.2.1 4 a1.toNatClampNeg) = a2 → p_Ac_remember hp))))
theorem s_GR_move {G : rx_Gh} {hp : rx_Hp} {F : Int32 → rx_Hp → Prop} (a1 : Int32) (a2 : Int32) (a3 : Int32) (hP : (p_GR_move a1 a2 a3 hp)) (H0 : F (f_GR_move a1 a2 a3 hp) (g_GR_move a1 a2 a3 hp)) : Ev wC G 3 q_GR_move [.ref 0, .int a1, .int a2, .int a3] hp (rI F) := by
  have H : ∀ v h, v = (f_GR_move a1 a2 a3 hp) → h = (g_GR_move a1 a2 a3 hp) → F v h := by rintro _ _ rfl rfl; exact H0
  unfold p_GR_move at hP
  refine w_GR_move a1 a2 a3  ?_
  refine ⟨fun hc_8 => ?_, fun hc_8 => ?_⟩
  · exact H _ _ (((if_pos hc_8).trans rfl)).symm (((if_pos hc_8).trans rfl)).symm
  · refine ⟨fun hc_20 => ?_, fun hc_20 => ?_⟩
    · exact H _ _ (((if_neg hc_8).trans ((if_pos hc_20).trans rfl))).symm (((if_neg hc_8).trans ((if_pos hc_20).trans rfl))).symm
    · refine ⟨((hP hc_8) hc_20).1, ?_⟩
      refine ⟨fun hc_33 => ?_, fun hc_33 => ?_⟩
      · refine ⟨fun hc_46 => ?_, fun hc_46 => ?_⟩
        · exact H _ _ (((if_neg hc_8).trans ((if_neg hc_20).trans ((if_pos hc_33).trans ((if_pos hc_46).trans rfl))))).symm (((if_neg hc_8).trans ((if_neg hc_20).trans ((if_pos hc_33).trans ((if_pos hc_46).trans rfl))))).symm
        · refine ⟨((((hP hc_8) hc_20).2.1 hc_33) hc_46), ?_⟩
          exact H _ _ (((if_neg hc_8).trans ((if_neg hc_20).trans ((if_pos hc_33).trans ((if_neg hc_46).trans rfl))))).symm (((if_neg hc_8).trans ((if_neg hc_20).trans ((if_pos hc_33).trans ((if_neg hc_46).trans rfl))))).symm
      · refine ⟨(((hP hc_8) hc_20).2.2 hc_33), ?_⟩
        exact H _ _ (((if_neg hc_8).trans ((if_neg hc_20).trans ((if_neg hc_33).trans rfl)))).symm (((if_neg hc_8).trans ((if_neg hc_20).trans ((if_neg hc_33).trans rfl)))).symm
set_option maxHeartbeats 4000000 in
set_option maxRecDepth 20000 in
theorem w_GR_glass {G : rx_Gh} {hp : rx_Hp} {F : Int32 → rx_Hp → Prop} (a1 : Int32) (H : ((f_Ha_stands hp) = 0 → F (-1) hp) ∧ (¬ (f_Ha_stands hp) = 0 → (a1 < 0 → F (-1) hp) ∧ (¬ a1 < 0 → (15 < a1 → F (-1) hp) ∧ (¬ 15 < a1 → (a1 = (hp.1 3 7) → F (-1) hp) ∧ (¬ a1 = (hp.1 3 7) → p_Ac_remember hp ∧ (F ((g_Ac_remember hp).1 37 2) (rx_pf (g_Ac_remember hp) 3 7 a1))))))) : Ev wC G 3 q_GR_glass [.ref 0, .int a1] hp (rI F) := by
  refine ev_of rfl (Nat.le_of_ble_eq_true rfl) rfl ?_
  show Rn wC G 3 q_GR_glass 0 [some (.ref 0), some (.int a1)] [] hp (rI F)
  refine r_aload_n (i := 0) d_GR_glass_0 rfl rfl ?_
  refine r_getR (b := 0) (r := 3) d_GR_glass_1 fl_GR_19 (by decide) rfl rfl rfl ?_
  refine rk_VI (b := 3) (d' := 1) [] [] d_GR_glass_4 ml_GR_171 rfl rfl (by decide) (by decide) rfl rfl (Nat.le_of_ble_eq_true rfl) (s_Ha_stands  ?_)
  refine r_if_eq (tgt := 31) d_GR_glass_7 (by decide) (fun hc_7 => ?_) (fun hc_7 => ?_)
  · replace H := H.1 hc_7
    refine r_iconst d_GR_glass_31 ic_m1 ?_
    exact rI_ret d_GR_glass_32 rfl H
  · replace H := H.2 hc_7
    refine r_iload_n (i := 1) d_GR_glass_10 rfl rfl ?_
    refine r_if_lt (tgt := 31) d_GR_glass_11 (by decide) (fun hc_11 => ?_) (fun hc_11 => ?_)
    · replace H := H.1 hc_11
      refine r_iconst d_GR_glass_31 ic_m1 ?_
      exact rI_ret d_GR_glass_32 rfl H
    · replace H := H.2 hc_11
      refine r_iload_n (i := 1) d_GR_glass_14 rfl rfl ?_
      refine r_bipush d_GR_glass_15 bp_15 ?_
      refine r_icmp_gt (tgt := 31) d_GR_glass_17 (by decide) (fun hc_17 => ?_) (fun hc_17 => ?_)
      · replace H := H.1 hc_17
        refine r_iconst d_GR_glass_31 ic_m1 ?_
        exact rI_ret d_GR_glass_32 rfl H
      · replace H := H.2 hc_17
        refine r_iload_n (i := 1) d_GR_glass_20 rfl rfl ?_
        refine r_aload_n (i := 0) d_GR_glass_21 rfl rfl ?_
        refine r_getR (b := 0) (r := 3) d_GR_glass_22 fl_GR_19 (by decide) rfl rfl rfl ?_
        refine r_getI (b := 3) (v := hp.1 3 7) d_GR_glass_25 fl_GR_175 (by decide) rfl rfl rfl ?_
        refine r_icmp_ne (tgt := 33) d_GR_glass_28 (by decide) (fun hc_28 => ?_) (fun hc_28 => ?_)
        · replace H := H.2 hc_28
          refine r_aload_n (i := 0) d_GR_glass_33 rfl rfl ?_
          refine r_getR (b := 0) (r := 37) d_GR_glass_34 fl_GR_56 (by decide) rfl rfl rfl ?_
          refine r_aload_n (i := 0) d_GR_glass_37 rfl rfl ?_
          refine r_getR (b := 0) (r := 3) d_GR_glass_38 fl_GR_19 (by decide) rfl rfl rfl ?_
          obtain ⟨hp_41_0, H⟩ := H
          refine rk_VV (b := 37) (d' := 2) [.ref 3] [] d_GR_glass_41 ml_GR_168 rfl rfl (by decide) (by decide) rfl rfl (Nat.le_of_ble_eq_true rfl) (s_Ac_remember hp_41_0 ?_)
          refine r_aload_n (i := 0) d_GR_glass_44 rfl rfl ?_
          refine r_getR (b := 0) (r := 3) d_GR_glass_45 fl_GR_19 (by decide) rfl rfl rfl ?_
          refine r_iload_n (i := 1) d_GR_glass_48 rfl rfl ?_
          refine r_putI (b := 3) d_GR_glass_49 fp_GR_175 ⟨rfl, rfl⟩ (by decide) rfl rfl ?_
          refine r_aload_n (i := 0) d_GR_glass_52 rfl rfl ?_
          refine r_getR (b := 0) (r := 37) d_GR_glass_53 fl_GR_56 (by decide) rfl rfl rfl ?_
          refine r_getI (b := 37) (v := (g_Ac_remember hp).1 37 2) d_GR_glass_56 fl_GR_139 (by decide) rfl rfl rfl ?_
          exact rI_ret d_GR_glass_59 rfl H
        · replace H := H.1 hc_28
          refine r_iconst d_GR_glass_31 ic_m1 ?_
          exact rI_ret d_GR_glass_32 rfl H
def f_GR_glass (a1 : Int32) (hp : rx_Hp) : Int32 := (if (f_Ha_stands hp) = 0 then (-1) else (if a1 < 0 then (-1) else (if 15 < a1 then (-1) else (if a1 = (hp.1 3 7) then (-1) else ((g_Ac_remember hp).1 37 2)))))
def g_GR_glass (a1 : Int32) (hp : rx_Hp) : rx_Hp := (if (f_Ha_stands hp) = 0 then hp else (if a1 < 0 then hp else (if 15 < a1 then hp else (if a1 = (hp.1 3 7) then hp else (rx_pf (g_Ac_remember hp) 3 7 a1)))))
def p_GR_glass (a1 : Int32) (hp : rx_Hp) : Prop := (¬ (f_Ha_stands hp) = 0 → (¬ a1 < 0 → (¬ 15 < a1 → (¬ a1 = (hp.1 3 7) → p_Ac_remember hp))))
theorem s_GR_glass {G : rx_Gh} {hp : rx_Hp} {F : Int32 → rx_Hp → Prop} (a1 : Int32) (hP : (p_GR_glass a1 hp)) (H0 : F (f_GR_glass a1 hp) (g_GR_glass a1 hp)) : Ev wC G 3 q_GR_glass [.ref 0, .int a1] hp (rI F) := by
  have H : ∀ v h, v = (f_GR_glass a1 hp) → h = (g_GR_glass a1 hp) → F v h := by rintro _ _ rfl rfl; exact H0
  unfold p_GR_glass at hP
  refine w_GR_glass a1  ?_
  refine ⟨fun hc_7 => ?_, fun hc_7 => ?_⟩
  · exact H _ _ (((if_pos hc_7).trans rfl)).symm (((if_pos hc_7).trans rfl)).symm
  · refine ⟨fun hc_11 => ?_, fun hc_11 => ?_⟩
    · exact H _ _ (((if_neg hc_7).trans ((if_pos hc_11).trans rfl))).symm (((if_neg hc_7).trans ((if_pos hc_11).trans rfl))).symm
    · refine ⟨fun hc_17 => ?_, fun hc_17 => ?_⟩
      · exact H _ _ (((if_neg hc_7).trans ((if_neg hc_11).trans ((if_pos hc_17).trans rfl)))).symm (((if_neg hc_7).trans ((if_neg hc_11).trans ((if_pos hc_17).trans rfl)))).symm
      · refine ⟨fun hc_28 => ?_, fun hc_28 => ?_⟩
        · exact H _ _ (((if_neg hc_7).trans ((if_neg hc_11).trans ((if_neg hc_17).trans ((if_pos hc_28).trans rfl))))).symm (((if_neg hc_7).trans ((if_neg hc_11).trans ((if_neg hc_17).trans ((if_pos hc_28).trans rfl))))).symm
        · refine ⟨((((hP hc_7) hc_11) hc_17) hc_28), ?_⟩
          exact H _ _ (((if_neg hc_7).trans ((if_neg hc_11).trans ((if_neg hc_17).trans ((if_neg hc_28).trans rfl))))).symm (((if_neg hc_7).trans ((if_neg hc_11).trans ((if_neg hc_17).trans ((if_neg hc_28).trans rfl))))).symm

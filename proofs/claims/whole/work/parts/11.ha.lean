theorem d_Ha_stands_0 : decode q_Ha_stands.2.1 0 = .ok (.aload_n 0, 1) := by decide +kernel
theorem d_Ha_stands_1 : decode q_Ha_stands.2.1 1 = .ok (.getfield 24, 3) := by decide +kernel
theorem fl_Ha_24 : rx_F "GlassRoom$Hall" 24 3 4 := ⟨(RX3, TX3, 9), rfl, by decide, (rx_s1 80 rfl rfl), rx_T3⟩
theorem d_Ha_stands_4 : decode q_Ha_stands.2.1 4 = .ok (.ifCond .le 7, 3) := by decide +kernel
theorem d_Ha_stands_11 : decode q_Ha_stands.2.1 11 = .ok (.iconst 0, 1) := by decide +kernel
theorem ic_0 : Int32.ofInt (0) = (0 : Int32) := by decide
theorem d_Ha_stands_7 : decode q_Ha_stands.2.1 7 = .ok (.iconst 1, 1) := by decide +kernel
theorem d_Ha_stands_8 : decode q_Ha_stands.2.1 8 = .ok (.goto 4, 3) := by decide +kernel
theorem d_Ha_stands_12 : decode q_Ha_stands.2.1 12 = .ok (.ireturn, 1) := by decide +kernel
theorem d_Ha_has_0 : decode q_Ha_has.2.1 0 = .ok (.iload_n 1, 1) := by decide +kernel
theorem d_Ha_has_1 : decode q_Ha_has.2.1 1 = .ok (.ifCond .lt 15, 3) := by decide +kernel
theorem d_Ha_has_16 : decode q_Ha_has.2.1 16 = .ok (.iconst 0, 1) := by decide +kernel
theorem d_Ha_has_4 : decode q_Ha_has.2.1 4 = .ok (.iload_n 1, 1) := by decide +kernel
theorem d_Ha_has_5 : decode q_Ha_has.2.1 5 = .ok (.aload_n 0, 1) := by decide +kernel
theorem d_Ha_has_6 : decode q_Ha_has.2.1 6 = .ok (.getfield 24, 3) := by decide +kernel
theorem d_Ha_has_9 : decode q_Ha_has.2.1 9 = .ok (.if_icmp .ge 7, 3) := by decide +kernel
theorem d_Ha_has_12 : decode q_Ha_has.2.1 12 = .ok (.iconst 1, 1) := by decide +kernel
theorem d_Ha_has_13 : decode q_Ha_has.2.1 13 = .ok (.goto 4, 3) := by decide +kernel
theorem d_Ha_has_17 : decode q_Ha_has.2.1 17 = .ok (.ireturn, 1) := by decide +kernel
theorem d_Ha_isInside_0 : decode q_Ha_isInside.2.1 0 = .ok (.iload_n 1, 1) := by decide +kernel
theorem d_Ha_isInside_1 : decode q_Ha_isInside.2.1 1 = .ok (.ifCond .lt 27, 3) := by decide +kernel
theorem d_Ha_isInside_28 : decode q_Ha_isInside.2.1 28 = .ok (.iconst 0, 1) := by decide +kernel
theorem d_Ha_isInside_4 : decode q_Ha_isInside.2.1 4 = .ok (.iload_n 1, 1) := by decide +kernel
theorem d_Ha_isInside_5 : decode q_Ha_isInside.2.1 5 = .ok (.aload_n 0, 1) := by decide +kernel
theorem d_Ha_isInside_6 : decode q_Ha_isInside.2.1 6 = .ok (.getfield 28, 3) := by decide +kernel
theorem fl_Ha_28 : rx_F "GlassRoom$Hall" 28 3 5 := ⟨(RX3, TX3, 9), rfl, by decide, (rx_s1 88 rfl rfl), rx_T3⟩
theorem d_Ha_isInside_9 : decode q_Ha_isInside.2.1 9 = .ok (.if_icmp .gt 19, 3) := by decide +kernel
theorem d_Ha_isInside_12 : decode q_Ha_isInside.2.1 12 = .ok (.iload_n 2, 1) := by decide +kernel
theorem d_Ha_isInside_13 : decode q_Ha_isInside.2.1 13 = .ok (.ifCond .lt 15, 3) := by decide +kernel
theorem d_Ha_isInside_16 : decode q_Ha_isInside.2.1 16 = .ok (.iload_n 2, 1) := by decide +kernel
theorem d_Ha_isInside_17 : decode q_Ha_isInside.2.1 17 = .ok (.aload_n 0, 1) := by decide +kernel
theorem d_Ha_isInside_18 : decode q_Ha_isInside.2.1 18 = .ok (.getfield 31, 3) := by decide +kernel
theorem fl_Ha_31 : rx_F "GlassRoom$Hall" 31 3 6 := ⟨(RX3, TX3, 9), rfl, by decide, (rx_s1 96 rfl rfl), rx_T3⟩
theorem d_Ha_isInside_21 : decode q_Ha_isInside.2.1 21 = .ok (.if_icmp .gt 7, 3) := by decide +kernel
theorem d_Ha_isInside_24 : decode q_Ha_isInside.2.1 24 = .ok (.iconst 1, 1) := by decide +kernel
theorem d_Ha_isInside_25 : decode q_Ha_isInside.2.1 25 = .ok (.goto 4, 3) := by decide +kernel
theorem d_Ha_isInside_29 : decode q_Ha_isInside.2.1 29 = .ok (.ireturn, 1) := by decide +kernel
theorem d_Ha_brightAfter_0 : decode q_Ha_brightAfter.2.1 0 = .ok (.iload_n 1, 1) := by decide +kernel
theorem d_Ha_brightAfter_1 : decode q_Ha_brightAfter.2.1 1 = .ok (.ifCond .lt 21, 3) := by decide +kernel
theorem d_Ha_brightAfter_22 : decode q_Ha_brightAfter.2.1 22 = .ok (.iconst 0, 1) := by decide +kernel
theorem d_Ha_brightAfter_4 : decode q_Ha_brightAfter.2.1 4 = .ok (.iload_n 1, 1) := by decide +kernel
theorem d_Ha_brightAfter_5 : decode q_Ha_brightAfter.2.1 5 = .ok (.aload_n 0, 1) := by decide +kernel
theorem d_Ha_brightAfter_6 : decode q_Ha_brightAfter.2.1 6 = .ok (.getfield 21, 3) := by decide +kernel
theorem fl_Ha_21 : rx_F "GlassRoom$Hall" 21 3 3 := ⟨(RX3, TX3, 9), rfl, by decide, (rx_s1 79 rfl rfl), rx_T3⟩
theorem d_Ha_brightAfter_9 : decode q_Ha_brightAfter.2.1 9 = .ok (.arraylength, 1) := by decide +kernel
theorem al_21 : Int32.ofNat 21 = (21 : Int32) := by decide
theorem d_Ha_brightAfter_10 : decode q_Ha_brightAfter.2.1 10 = .ok (.if_icmp .ge 12, 3) := by decide +kernel
theorem d_Ha_brightAfter_13 : decode q_Ha_brightAfter.2.1 13 = .ok (.aload_n 0, 1) := by decide +kernel
theorem d_Ha_brightAfter_14 : decode q_Ha_brightAfter.2.1 14 = .ok (.getfield 21, 3) := by decide +kernel
theorem d_Ha_brightAfter_17 : decode q_Ha_brightAfter.2.1 17 = .ok (.iload_n 1, 1) := by decide +kernel
theorem d_Ha_brightAfter_23 : decode q_Ha_brightAfter.2.1 23 = .ok (.ireturn, 1) := by decide +kernel
theorem d_Ha_brightAfter_18 : decode q_Ha_brightAfter.2.1 18 = .ok (.iaload, 1) := by decide +kernel
theorem d_Ha_brightAfter_19 : decode q_Ha_brightAfter.2.1 19 = .ok (.goto 4, 3) := by decide +kernel
theorem d_Ha_spot_0 : decode q_Ha_spot.2.1 0 = .ok (.iload_n 0, 1) := by decide +kernel
theorem d_Ha_spot_1 : decode q_Ha_spot.2.1 1 = .ok (.iload_n 1, 1) := by decide +kernel
theorem d_Ha_spot_2 : decode q_Ha_spot.2.1 2 = .ok (.imul, 1) := by decide +kernel
theorem d_Ha_spot_3 : decode q_Ha_spot.2.1 3 = .ok (.iload_n 0, 1) := by decide +kernel
theorem d_Ha_spot_4 : decode q_Ha_spot.2.1 4 = .ok (.iconst 1, 1) := by decide +kernel
theorem d_Ha_spot_5 : decode q_Ha_spot.2.1 5 = .ok (.iand, 1) := by decide +kernel
theorem d_Ha_spot_6 : decode q_Ha_spot.2.1 6 = .ok (.ifCond .ne 7, 3) := by decide +kernel
theorem d_Ha_spot_9 : decode q_Ha_spot.2.1 9 = .ok (.iload_n 2, 1) := by decide +kernel
theorem d_Ha_spot_10 : decode q_Ha_spot.2.1 10 = .ok (.goto 6, 3) := by decide +kernel
theorem d_Ha_spot_13 : decode q_Ha_spot.2.1 13 = .ok (.iload_n 1, 1) := by decide +kernel
theorem d_Ha_spot_14 : decode q_Ha_spot.2.1 14 = .ok (.iload_n 2, 1) := by decide +kernel
theorem d_Ha_spot_15 : decode q_Ha_spot.2.1 15 = .ok (.isub, 1) := by decide +kernel
theorem d_Ha_spot_16 : decode q_Ha_spot.2.1 16 = .ok (.iadd, 1) := by decide +kernel
theorem d_Ha_spot_17 : decode q_Ha_spot.2.1 17 = .ok (.ireturn, 1) := by decide +kernel
theorem d_Ha_lowCell_0 : decode q_Ha_lowCell.2.1 0 = .ok (.iload_n 0, 1) := by decide +kernel
theorem d_Ha_lowCell_1 : decode q_Ha_lowCell.2.1 1 = .ok (.iconst 3, 1) := by decide +kernel
theorem ic_3 : Int32.ofInt (3) = (3 : Int32) := by decide
theorem d_Ha_lowCell_2 : decode q_Ha_lowCell.2.1 2 = .ok (.if_icmp .ne 8, 3) := by decide +kernel
theorem d_Ha_lowCell_5 : decode q_Ha_lowCell.2.1 5 = .ok (.bipush (-10), 2) := by decide +kernel
theorem bp_m10 : (Int8.ofInt (-10)).toInt32 = (-10 : Int32) := by decide
theorem d_Ha_lowCell_7 : decode q_Ha_lowCell.2.1 7 = .ok (.goto 13, 3) := by decide +kernel
theorem d_Ha_lowCell_10 : decode q_Ha_lowCell.2.1 10 = .ok (.iload_n 0, 1) := by decide +kernel
theorem d_Ha_lowCell_11 : decode q_Ha_lowCell.2.1 11 = .ok (.iconst 1, 1) := by decide +kernel
theorem d_Ha_lowCell_12 : decode q_Ha_lowCell.2.1 12 = .ok (.if_icmp .ne 7, 3) := by decide +kernel
theorem d_Ha_lowCell_15 : decode q_Ha_lowCell.2.1 15 = .ok (.iconst (-1), 1) := by decide +kernel
theorem ic_m1 : Int32.ofInt (-1) = (-1 : Int32) := by decide
theorem d_Ha_lowCell_16 : decode q_Ha_lowCell.2.1 16 = .ok (.goto 4, 3) := by decide +kernel
theorem d_Ha_lowCell_19 : decode q_Ha_lowCell.2.1 19 = .ok (.iconst 0, 1) := by decide +kernel
theorem d_Ha_lowCell_20 : decode q_Ha_lowCell.2.1 20 = .ok (.ireturn, 1) := by decide +kernel
theorem d_Ha_highCell_0 : decode q_Ha_highCell.2.1 0 = .ok (.iload_n 0, 1) := by decide +kernel
theorem d_Ha_highCell_1 : decode q_Ha_highCell.2.1 1 = .ok (.iconst 3, 1) := by decide +kernel
theorem d_Ha_highCell_2 : decode q_Ha_highCell.2.1 2 = .ok (.if_icmp .ne 8, 3) := by decide +kernel
theorem d_Ha_highCell_5 : decode q_Ha_highCell.2.1 5 = .ok (.bipush 10, 2) := by decide +kernel
theorem bp_10 : (Int8.ofInt (10)).toInt32 = (10 : Int32) := by decide
theorem d_Ha_highCell_7 : decode q_Ha_highCell.2.1 7 = .ok (.goto 13, 3) := by decide +kernel
theorem d_Ha_highCell_10 : decode q_Ha_highCell.2.1 10 = .ok (.iload_n 0, 1) := by decide +kernel
theorem d_Ha_highCell_11 : decode q_Ha_highCell.2.1 11 = .ok (.iconst 2, 1) := by decide +kernel
theorem d_Ha_highCell_12 : decode q_Ha_highCell.2.1 12 = .ok (.if_icmp .ne 7, 3) := by decide +kernel
theorem d_Ha_highCell_15 : decode q_Ha_highCell.2.1 15 = .ok (.iconst 1, 1) := by decide +kernel
theorem d_Ha_highCell_16 : decode q_Ha_highCell.2.1 16 = .ok (.goto 4, 3) := by decide +kernel
theorem d_Ha_highCell_19 : decode q_Ha_highCell.2.1 19 = .ok (.iconst 0, 1) := by decide +kernel
theorem d_Ha_highCell_20 : decode q_Ha_highCell.2.1 20 = .ok (.ireturn, 1) := by decide +kernel
theorem d_Ha_lowI_0 : decode q_Ha_lowI.2.1 0 = .ok (.iload_n 0, 1) := by decide +kernel
theorem d_Ha_lowI_1 : decode q_Ha_lowI.2.1 1 = .ok (.iconst 3, 1) := by decide +kernel
theorem d_Ha_lowI_2 : decode q_Ha_lowI.2.1 2 = .ok (.iand, 1) := by decide +kernel
theorem d_Ha_lowI_3 : decode q_Ha_lowI.2.1 3 = .ok (.invokestatic 49, 3) := by decide +kernel
theorem ml_Ha_49 : rx_CS "GlassRoom$Hall" 49 q_Ha_lowCell 1 := ⟨⟨(rx_s3 201 rfl rfl), (rx_s3 202 rfl rfl)⟩, ⟨(rx_s1 3 rfl rfl), q_Ha_lowCell_k, ⟨by decide, by decide, by decide +kernel⟩, by decide⟩⟩
theorem d_Ha_lowI_6 : decode q_Ha_lowI.2.1 6 = .ok (.ireturn, 1) := by decide +kernel
theorem d_Ha_highI_0 : decode q_Ha_highI.2.1 0 = .ok (.iload_n 0, 1) := by decide +kernel
theorem d_Ha_highI_1 : decode q_Ha_highI.2.1 1 = .ok (.iconst 3, 1) := by decide +kernel
theorem d_Ha_highI_2 : decode q_Ha_highI.2.1 2 = .ok (.iand, 1) := by decide +kernel
theorem d_Ha_highI_3 : decode q_Ha_highI.2.1 3 = .ok (.invokestatic 53, 3) := by decide +kernel
theorem ml_Ha_53 : rx_CS "GlassRoom$Hall" 53 q_Ha_highCell 1 := ⟨⟨(rx_s3 207 rfl rfl), (rx_s3 208 rfl rfl)⟩, ⟨(rx_s1 3 rfl rfl), q_Ha_highCell_k, ⟨by decide, by decide, by decide +kernel⟩, by decide⟩⟩
theorem d_Ha_highI_6 : decode q_Ha_highI.2.1 6 = .ok (.ireturn, 1) := by decide +kernel
theorem d_Ha_lowJ_0 : decode q_Ha_lowJ.2.1 0 = .ok (.iload_n 0, 1) := by decide +kernel
theorem d_Ha_lowJ_1 : decode q_Ha_lowJ.2.1 1 = .ok (.iconst 2, 1) := by decide +kernel
theorem d_Ha_lowJ_2 : decode q_Ha_lowJ.2.1 2 = .ok (.ishr, 1) := by decide +kernel
theorem d_Ha_lowJ_3 : decode q_Ha_lowJ.2.1 3 = .ok (.iconst 3, 1) := by decide +kernel
theorem d_Ha_lowJ_4 : decode q_Ha_lowJ.2.1 4 = .ok (.iand, 1) := by decide +kernel
theorem d_Ha_lowJ_5 : decode q_Ha_lowJ.2.1 5 = .ok (.invokestatic 49, 3) := by decide +kernel
theorem d_Ha_lowJ_8 : decode q_Ha_lowJ.2.1 8 = .ok (.ireturn, 1) := by decide +kernel
theorem d_Ha_highJ_0 : decode q_Ha_highJ.2.1 0 = .ok (.iload_n 0, 1) := by decide +kernel
theorem d_Ha_highJ_1 : decode q_Ha_highJ.2.1 1 = .ok (.iconst 2, 1) := by decide +kernel
theorem d_Ha_highJ_2 : decode q_Ha_highJ.2.1 2 = .ok (.ishr, 1) := by decide +kernel
theorem d_Ha_highJ_3 : decode q_Ha_highJ.2.1 3 = .ok (.iconst 3, 1) := by decide +kernel
theorem d_Ha_highJ_4 : decode q_Ha_highJ.2.1 4 = .ok (.iand, 1) := by decide +kernel
theorem d_Ha_highJ_5 : decode q_Ha_highJ.2.1 5 = .ok (.invokestatic 53, 3) := by decide +kernel
theorem d_Ha_highJ_8 : decode q_Ha_highJ.2.1 8 = .ok (.ireturn, 1) := by decide +kernel
theorem d_Ha_isThere_0 : decode q_Ha_isThere.2.1 0 = .ok (.iload_n 1, 1) := by decide +kernel
theorem d_Ha_isThere_1 : decode q_Ha_isThere.2.1 1 = .ok (.iload_n 0, 1) := by decide +kernel
theorem d_Ha_isThere_2 : decode q_Ha_isThere.2.1 2 = .ok (.invokestatic 56, 3) := by decide +kernel
theorem ml_Ha_56 : rx_CS "GlassRoom$Hall" 56 q_Ha_lowI 1 := ⟨⟨(rx_s3 198 rfl rfl), (rx_s3 199 rfl rfl)⟩, ⟨(rx_s1 3 rfl rfl), q_Ha_lowI_k, ⟨by decide, by decide, by decide +kernel⟩, by decide⟩⟩
theorem d_Ha_isThere_5 : decode q_Ha_isThere.2.1 5 = .ok (.if_icmp .lt 31, 3) := by decide +kernel
theorem d_Ha_isThere_36 : decode q_Ha_isThere.2.1 36 = .ok (.iconst 0, 1) := by decide +kernel
theorem d_Ha_isThere_8 : decode q_Ha_isThere.2.1 8 = .ok (.iload_n 1, 1) := by decide +kernel
theorem d_Ha_isThere_9 : decode q_Ha_isThere.2.1 9 = .ok (.iload_n 0, 1) := by decide +kernel
theorem d_Ha_isThere_10 : decode q_Ha_isThere.2.1 10 = .ok (.invokestatic 59, 3) := by decide +kernel
theorem ml_Ha_59 : rx_CS "GlassRoom$Hall" 59 q_Ha_highI 1 := ⟨⟨(rx_s3 204 rfl rfl), (rx_s3 205 rfl rfl)⟩, ⟨(rx_s1 3 rfl rfl), q_Ha_highI_k, ⟨by decide, by decide, by decide +kernel⟩, by decide⟩⟩
theorem d_Ha_isThere_13 : decode q_Ha_isThere.2.1 13 = .ok (.if_icmp .gt 23, 3) := by decide +kernel
theorem d_Ha_isThere_16 : decode q_Ha_isThere.2.1 16 = .ok (.iload_n 2, 1) := by decide +kernel
theorem d_Ha_isThere_17 : decode q_Ha_isThere.2.1 17 = .ok (.iload_n 0, 1) := by decide +kernel
theorem d_Ha_isThere_18 : decode q_Ha_isThere.2.1 18 = .ok (.invokestatic 62, 3) := by decide +kernel
theorem ml_Ha_62 : rx_CS "GlassRoom$Hall" 62 q_Ha_lowJ 1 := ⟨⟨(rx_s3 210 rfl rfl), (rx_s3 211 rfl rfl)⟩, ⟨(rx_s1 3 rfl rfl), q_Ha_lowJ_k, ⟨by decide, by decide, by decide +kernel⟩, by decide⟩⟩
theorem d_Ha_isThere_21 : decode q_Ha_isThere.2.1 21 = .ok (.if_icmp .lt 15, 3) := by decide +kernel
theorem d_Ha_isThere_24 : decode q_Ha_isThere.2.1 24 = .ok (.iload_n 2, 1) := by decide +kernel
theorem d_Ha_isThere_25 : decode q_Ha_isThere.2.1 25 = .ok (.iload_n 0, 1) := by decide +kernel
theorem d_Ha_isThere_26 : decode q_Ha_isThere.2.1 26 = .ok (.invokestatic 65, 3) := by decide +kernel
theorem ml_Ha_65 : rx_CS "GlassRoom$Hall" 65 q_Ha_highJ 1 := ⟨⟨(rx_s3 213 rfl rfl), (rx_s3 214 rfl rfl)⟩, ⟨(rx_s1 3 rfl rfl), q_Ha_highJ_k, ⟨by decide, by decide, by decide +kernel⟩, by decide⟩⟩
theorem d_Ha_isThere_29 : decode q_Ha_isThere.2.1 29 = .ok (.if_icmp .gt 7, 3) := by decide +kernel
theorem d_Ha_isThere_32 : decode q_Ha_isThere.2.1 32 = .ok (.iconst 1, 1) := by decide +kernel
theorem d_Ha_isThere_33 : decode q_Ha_isThere.2.1 33 = .ok (.goto 4, 3) := by decide +kernel
theorem d_Ha_isThere_37 : decode q_Ha_isThere.2.1 37 = .ok (.ireturn, 1) := by decide +kernel
theorem d_Ha_wander_0 : decode q_Ha_wander.2.1 0 = .ok (.aload_n 0, 1) := by decide +kernel
theorem d_Ha_wander_1 : decode q_Ha_wander.2.1 1 = .ok (.getfield 9, 3) := by decide +kernel
theorem fl_Ha_9 : rx_F "GlassRoom$Hall" 9 3 0 := ⟨(RX3, TX3, 9), rfl, by decide, (rx_s1 60 rfl rfl), rx_T3⟩
theorem d_Ha_wander_4 : decode q_Ha_wander.2.1 4 = .ok (.iload_n 1, 1) := by decide +kernel
theorem d_Ha_wander_5 : decode q_Ha_wander.2.1 5 = .ok (.iaload, 1) := by decide +kernel
theorem d_Ha_wander_6 : decode q_Ha_wander.2.1 6 = .ok (.iload_n 2, 1) := by decide +kernel
theorem d_Ha_wander_7 : decode q_Ha_wander.2.1 7 = .ok (.iconst 1, 1) := by decide +kernel
theorem d_Ha_wander_8 : decode q_Ha_wander.2.1 8 = .ok (.if_icmp .ne 7, 3) := by decide +kernel
theorem d_Ha_wander_11 : decode q_Ha_wander.2.1 11 = .ok (.iconst 1, 1) := by decide +kernel
theorem d_Ha_wander_12 : decode q_Ha_wander.2.1 12 = .ok (.goto 13, 3) := by decide +kernel
theorem d_Ha_wander_15 : decode q_Ha_wander.2.1 15 = .ok (.iload_n 2, 1) := by decide +kernel
theorem d_Ha_wander_16 : decode q_Ha_wander.2.1 16 = .ok (.iconst 3, 1) := by decide +kernel
theorem d_Ha_wander_17 : decode q_Ha_wander.2.1 17 = .ok (.if_icmp .ne 7, 3) := by decide +kernel
theorem d_Ha_wander_20 : decode q_Ha_wander.2.1 20 = .ok (.iconst (-1), 1) := by decide +kernel
theorem d_Ha_wander_21 : decode q_Ha_wander.2.1 21 = .ok (.goto 4, 3) := by decide +kernel
theorem d_Ha_wander_24 : decode q_Ha_wander.2.1 24 = .ok (.iconst 0, 1) := by decide +kernel
theorem d_Ha_wander_25 : decode q_Ha_wander.2.1 25 = .ok (.iadd, 1) := by decide +kernel
theorem d_Ha_wander_26 : decode q_Ha_wander.2.1 26 = .ok (.istore_n 3, 1) := by decide +kernel
theorem d_Ha_wander_27 : decode q_Ha_wander.2.1 27 = .ok (.aload_n 0, 1) := by decide +kernel
theorem d_Ha_wander_28 : decode q_Ha_wander.2.1 28 = .ok (.getfield 15, 3) := by decide +kernel
theorem fl_Ha_15 : rx_F "GlassRoom$Hall" 15 3 1 := ⟨(RX3, TX3, 9), rfl, by decide, (rx_s1 68 rfl rfl), rx_T3⟩
theorem d_Ha_wander_31 : decode q_Ha_wander.2.1 31 = .ok (.iload_n 1, 1) := by decide +kernel
theorem d_Ha_wander_32 : decode q_Ha_wander.2.1 32 = .ok (.iaload, 1) := by decide +kernel
theorem d_Ha_wander_33 : decode q_Ha_wander.2.1 33 = .ok (.iload_n 2, 1) := by decide +kernel
theorem d_Ha_wander_34 : decode q_Ha_wander.2.1 34 = .ok (.iconst 2, 1) := by decide +kernel
theorem d_Ha_wander_35 : decode q_Ha_wander.2.1 35 = .ok (.if_icmp .ne 7, 3) := by decide +kernel
theorem d_Ha_wander_38 : decode q_Ha_wander.2.1 38 = .ok (.iconst 1, 1) := by decide +kernel
theorem d_Ha_wander_39 : decode q_Ha_wander.2.1 39 = .ok (.goto 13, 3) := by decide +kernel
theorem d_Ha_wander_42 : decode q_Ha_wander.2.1 42 = .ok (.iload_n 2, 1) := by decide +kernel
theorem d_Ha_wander_43 : decode q_Ha_wander.2.1 43 = .ok (.iconst 4, 1) := by decide +kernel
theorem d_Ha_wander_44 : decode q_Ha_wander.2.1 44 = .ok (.if_icmp .ne 7, 3) := by decide +kernel
theorem d_Ha_wander_47 : decode q_Ha_wander.2.1 47 = .ok (.iconst (-1), 1) := by decide +kernel
theorem d_Ha_wander_48 : decode q_Ha_wander.2.1 48 = .ok (.goto 4, 3) := by decide +kernel
theorem d_Ha_wander_51 : decode q_Ha_wander.2.1 51 = .ok (.iconst 0, 1) := by decide +kernel
theorem d_Ha_wander_52 : decode q_Ha_wander.2.1 52 = .ok (.iadd, 1) := by decide +kernel
theorem d_Ha_wander_53 : decode q_Ha_wander.2.1 53 = .ok (.istore 4, 2) := by decide +kernel
theorem d_Ha_wander_55 : decode q_Ha_wander.2.1 55 = .ok (.aload_n 0, 1) := by decide +kernel
theorem d_Ha_wander_56 : decode q_Ha_wander.2.1 56 = .ok (.iload_n 3, 1) := by decide +kernel
theorem d_Ha_wander_57 : decode q_Ha_wander.2.1 57 = .ok (.iload 4, 2) := by decide +kernel
theorem d_Ha_wander_59 : decode q_Ha_wander.2.1 59 = .ok (.invokevirtual 41, 3) := by decide +kernel
theorem ml_Ha_41 : rx_CV "GlassRoom$Hall" 41 q_Ha_isInside 2 := ⟨⟨(rx_s3 157 rfl rfl), (rx_s3 54 rfl rfl), (rx_s3 55 rfl rfl)⟩, ⟨(rx_s1 3 rfl rfl), q_Ha_isInside_k, ⟨by decide, by decide, by decide +kernel⟩, by decide⟩⟩
theorem d_Ha_wander_62 : decode q_Ha_wander.2.1 62 = .ok (.ifCond .eq 18, 3) := by decide +kernel
theorem d_Ha_wander_65 : decode q_Ha_wander.2.1 65 = .ok (.aload_n 0, 1) := by decide +kernel
theorem d_Ha_wander_66 : decode q_Ha_wander.2.1 66 = .ok (.getfield 9, 3) := by decide +kernel
theorem d_Ha_wander_69 : decode q_Ha_wander.2.1 69 = .ok (.iload_n 1, 1) := by decide +kernel
theorem d_Ha_wander_70 : decode q_Ha_wander.2.1 70 = .ok (.iload_n 3, 1) := by decide +kernel
theorem d_Ha_wander_80 : decode q_Ha_wander.2.1 80 = .ok (.return_, 1) := by decide +kernel
theorem d_Ha_wander_71 : decode q_Ha_wander.2.1 71 = .ok (.iastore, 1) := by decide +kernel
theorem d_Ha_wander_72 : decode q_Ha_wander.2.1 72 = .ok (.aload_n 0, 1) := by decide +kernel
theorem d_Ha_wander_73 : decode q_Ha_wander.2.1 73 = .ok (.getfield 15, 3) := by decide +kernel
theorem d_Ha_wander_76 : decode q_Ha_wander.2.1 76 = .ok (.iload_n 1, 1) := by decide +kernel
theorem d_Ha_wander_77 : decode q_Ha_wander.2.1 77 = .ok (.iload 4, 2) := by decide +kernel
theorem d_Ha_wander_79 : decode q_Ha_wander.2.1 79 = .ok (.iastore, 1) := by decide +kernel
theorem d_Ha_farFrom_0 : decode q_Ha_farFrom.2.1 0 = .ok (.iload_n 3, 1) := by decide +kernel
theorem d_Ha_farFrom_1 : decode q_Ha_farFrom.2.1 1 = .ok (.aload_n 0, 1) := by decide +kernel
theorem d_Ha_farFrom_2 : decode q_Ha_farFrom.2.1 2 = .ok (.getfield 28, 3) := by decide +kernel
theorem d_Ha_farFrom_5 : decode q_Ha_farFrom.2.1 5 = .ok (.aload_n 0, 1) := by decide +kernel
theorem d_Ha_farFrom_6 : decode q_Ha_farFrom.2.1 6 = .ok (.getfield 9, 3) := by decide +kernel
theorem d_Ha_farFrom_9 : decode q_Ha_farFrom.2.1 9 = .ok (.iload_n 2, 1) := by decide +kernel
theorem d_Ha_farFrom_10 : decode q_Ha_farFrom.2.1 10 = .ok (.iaload, 1) := by decide +kernel
theorem d_Ha_farFrom_11 : decode q_Ha_farFrom.2.1 11 = .ok (.invokestatic 45, 3) := by decide +kernel
theorem ml_Ha_45 : rx_CS "GlassRoom$Hall" 45 q_Ha_spot 3 := ⟨⟨(rx_s3 224 rfl rfl), (rx_s3 180 rfl rfl)⟩, ⟨(rx_s1 3 rfl rfl), q_Ha_spot_k, ⟨by decide, by decide, by decide +kernel⟩, by decide⟩⟩
theorem d_Ha_farFrom_14 : decode q_Ha_farFrom.2.1 14 = .ok (.aload_n 0, 1) := by decide +kernel
theorem d_Ha_farFrom_15 : decode q_Ha_farFrom.2.1 15 = .ok (.getfield 9, 3) := by decide +kernel
theorem d_Ha_farFrom_18 : decode q_Ha_farFrom.2.1 18 = .ok (.iload_n 1, 1) := by decide +kernel
theorem d_Ha_farFrom_19 : decode q_Ha_farFrom.2.1 19 = .ok (.iaload, 1) := by decide +kernel
theorem d_Ha_farFrom_20 : decode q_Ha_farFrom.2.1 20 = .ok (.isub, 1) := by decide +kernel
theorem d_Ha_farFrom_21 : decode q_Ha_farFrom.2.1 21 = .ok (.istore 5, 2) := by decide +kernel
theorem d_Ha_farFrom_23 : decode q_Ha_farFrom.2.1 23 = .ok (.iload 4, 2) := by decide +kernel
theorem d_Ha_farFrom_25 : decode q_Ha_farFrom.2.1 25 = .ok (.aload_n 0, 1) := by decide +kernel
theorem d_Ha_farFrom_26 : decode q_Ha_farFrom.2.1 26 = .ok (.getfield 31, 3) := by decide +kernel
theorem d_Ha_farFrom_29 : decode q_Ha_farFrom.2.1 29 = .ok (.aload_n 0, 1) := by decide +kernel
theorem d_Ha_farFrom_30 : decode q_Ha_farFrom.2.1 30 = .ok (.getfield 15, 3) := by decide +kernel
theorem d_Ha_farFrom_33 : decode q_Ha_farFrom.2.1 33 = .ok (.iload_n 2, 1) := by decide +kernel
theorem d_Ha_farFrom_34 : decode q_Ha_farFrom.2.1 34 = .ok (.iaload, 1) := by decide +kernel
theorem d_Ha_farFrom_35 : decode q_Ha_farFrom.2.1 35 = .ok (.invokestatic 45, 3) := by decide +kernel
theorem d_Ha_farFrom_38 : decode q_Ha_farFrom.2.1 38 = .ok (.aload_n 0, 1) := by decide +kernel
theorem d_Ha_farFrom_39 : decode q_Ha_farFrom.2.1 39 = .ok (.getfield 15, 3) := by decide +kernel
theorem d_Ha_farFrom_42 : decode q_Ha_farFrom.2.1 42 = .ok (.iload_n 1, 1) := by decide +kernel
theorem d_Ha_farFrom_43 : decode q_Ha_farFrom.2.1 43 = .ok (.iaload, 1) := by decide +kernel
theorem d_Ha_farFrom_44 : decode q_Ha_farFrom.2.1 44 = .ok (.isub, 1) := by decide +kernel
theorem d_Ha_farFrom_45 : decode q_Ha_farFrom.2.1 45 = .ok (.istore 6, 2) := by decide +kernel
theorem d_Ha_farFrom_47 : decode q_Ha_farFrom.2.1 47 = .ok (.iload 5, 2) := by decide +kernel
theorem d_Ha_farFrom_49 : decode q_Ha_farFrom.2.1 49 = .ok (.iload 5, 2) := by decide +kernel
theorem d_Ha_farFrom_51 : decode q_Ha_farFrom.2.1 51 = .ok (.imul, 1) := by decide +kernel
theorem d_Ha_farFrom_52 : decode q_Ha_farFrom.2.1 52 = .ok (.iload 6, 2) := by decide +kernel
theorem d_Ha_farFrom_54 : decode q_Ha_farFrom.2.1 54 = .ok (.iload 6, 2) := by decide +kernel
theorem d_Ha_farFrom_56 : decode q_Ha_farFrom.2.1 56 = .ok (.imul, 1) := by decide +kernel
theorem d_Ha_farFrom_57 : decode q_Ha_farFrom.2.1 57 = .ok (.iadd, 1) := by decide +kernel
theorem d_Ha_farFrom_58 : decode q_Ha_farFrom.2.1 58 = .ok (.ireturn, 1) := by decide +kernel
set_option maxHeartbeats 4000000 in
set_option maxRecDepth 20000 in
theorem w_Ha_stands {G : rx_Gh} {hp : rx_Hp} {F : Int32 → rx_Hp → Prop}  (H : F ((if (hp.1 3 4) ≤ 0 then 0 else 1) : Int32) hp) : Ev wC G 1 q_Ha_stands [.ref 3] hp (rI F) := by
  refine ev_of rfl (Nat.le_of_ble_eq_true rfl) rfl ?_
  show Rn wC G 1 q_Ha_stands 0 [some (.ref 3)] [] hp (rI F)
  have J4 : ∀ (v4_0 : Int32), v4_0 = ((if (hp.1 3 4) ≤ 0 then 0 else 1) : Int32) → Rn wC G 1 q_Ha_stands 12 [some (.ref 3)] [.int v4_0] hp (rI F) := by
    rintro _ rfl
    exact rZ_ret d_Ha_stands_12 rfl (rb_ite (Or.inl rfl) (Or.inr rfl)) H
  refine r_aload_n (i := 0) d_Ha_stands_0 rfl rfl ?_
  refine r_getI (b := 3) (v := hp.1 3 4) d_Ha_stands_1 fl_Ha_24 (by decide) rfl rfl rfl ?_
  refine r_if_le (tgt := 11) d_Ha_stands_4 (by decide) (fun hc_4 => ?_) (fun hc_4 => ?_)
  · refine r_iconst d_Ha_stands_11 ic_0 ?_
    exact J4 _ (((if_pos hc_4).trans rfl)).symm
  · refine r_iconst d_Ha_stands_7 ic_1 ?_
    refine r_goto (tgt := 12) d_Ha_stands_8 (by decide) ?_
    exact J4 _ (((if_neg hc_4).trans rfl)).symm
def f_Ha_stands  (hp : rx_Hp) : Int32 := ((if (hp.1 3 4) ≤ 0 then 0 else 1) : Int32)
theorem s_Ha_stands {G : rx_Gh} {hp : rx_Hp} {F : Int32 → rx_Hp → Prop}  (H0 : F (f_Ha_stands hp) hp) : Ev wC G 1 q_Ha_stands [.ref 3] hp (rI F) := by
  have H : ∀ v h, v = (f_Ha_stands hp) → h = hp → F v h := by rintro _ _ rfl rfl; exact H0
  refine w_Ha_stands   ?_
  exact H _ _ (rfl).symm (rfl).symm
theorem b_Ha_stands  (hp : rx_Hp) : (f_Ha_stands hp) = 0 ∨ (f_Ha_stands hp) = 1 := (rb_ite (Or.inl rfl) (Or.inr rfl))
set_option maxHeartbeats 4000000 in
set_option maxRecDepth 20000 in
theorem w_Ha_has {G : rx_Gh} {hp : rx_Hp} {F : Int32 → rx_Hp → Prop} (a1 : Int32) (H : F ((if a1 < 0 then 0 else ((if (hp.1 3 4) ≤ a1 then 0 else 1) : Int32)) : Int32) hp) : Ev wC G 1 q_Ha_has [.ref 3, .int a1] hp (rI F) := by
  refine ev_of rfl (Nat.le_of_ble_eq_true rfl) rfl ?_
  show Rn wC G 1 q_Ha_has 0 [some (.ref 3), some (.int a1)] [] hp (rI F)
  have J1 : ∀ (v1_0 : Int32), v1_0 = ((if a1 < 0 then 0 else ((if (hp.1 3 4) ≤ a1 then 0 else 1) : Int32)) : Int32) → Rn wC G 1 q_Ha_has 17 [some (.ref 3), some (.int a1)] [.int v1_0] hp (rI F) := by
    rintro _ rfl
    exact rZ_ret d_Ha_has_17 rfl (rb_ite (Or.inl rfl) (rb_ite (Or.inl rfl) (Or.inr rfl))) H
  refine r_iload_n (i := 1) d_Ha_has_0 rfl rfl ?_
  refine r_if_lt (tgt := 16) d_Ha_has_1 (by decide) (fun hc_1 => ?_) (fun hc_1 => ?_)
  · refine r_iconst d_Ha_has_16 ic_0 ?_
    exact J1 _ (((if_pos hc_1).trans rfl)).symm
  · refine r_iload_n (i := 1) d_Ha_has_4 rfl rfl ?_
    refine r_aload_n (i := 0) d_Ha_has_5 rfl rfl ?_
    refine r_getI (b := 3) (v := hp.1 3 4) d_Ha_has_6 fl_Ha_24 (by decide) rfl rfl rfl ?_
    refine r_icmp_ge (tgt := 16) d_Ha_has_9 (by decide) (fun hc_9 => ?_) (fun hc_9 => ?_)
    · refine r_iconst d_Ha_has_16 ic_0 ?_
      exact J1 _ (((if_neg hc_1).trans ((if_pos hc_9).trans rfl))).symm
    · refine r_iconst d_Ha_has_12 ic_1 ?_
      refine r_goto (tgt := 17) d_Ha_has_13 (by decide) ?_
      exact J1 _ (((if_neg hc_1).trans ((if_neg hc_9).trans rfl))).symm
def f_Ha_has (a1 : Int32) (hp : rx_Hp) : Int32 := ((if a1 < 0 then 0 else ((if (hp.1 3 4) ≤ a1 then 0 else 1) : Int32)) : Int32)
theorem s_Ha_has {G : rx_Gh} {hp : rx_Hp} {F : Int32 → rx_Hp → Prop} (a1 : Int32) (H0 : F (f_Ha_has a1 hp) hp) : Ev wC G 1 q_Ha_has [.ref 3, .int a1] hp (rI F) := by
  have H : ∀ v h, v = (f_Ha_has a1 hp) → h = hp → F v h := by rintro _ _ rfl rfl; exact H0
  refine w_Ha_has a1  ?_
  exact H _ _ (rfl).symm (rfl).symm
theorem b_Ha_has (a1 : Int32) (hp : rx_Hp) : (f_Ha_has a1 hp) = 0 ∨ (f_Ha_has a1 hp) = 1 := (rb_ite (Or.inl rfl) (rb_ite (Or.inl rfl) (Or.inr rfl)))
set_option maxHeartbeats 4000000 in
set_option maxRecDepth 20000 in
theorem w_Ha_isInside {G : rx_Gh} {hp : rx_Hp} {F : Int32 → rx_Hp → Prop} (a1 : Int32) (a2 : Int32) (H : F ((if a1 < 0 then 0 else ((if (hp.1 3 5) < a1 then 0 else ((if a2 < 0 then 0 else ((if (hp.1 3 6) < a2 then 0 else 1) : Int32)) : Int32)) : Int32)) : Int32) hp) : Ev wC G 1 q_Ha_isInside [.ref 3, .int a1, .int a2] hp (rI F) := by
  refine ev_of rfl (Nat.le_of_ble_eq_true rfl) rfl ?_
  show Rn wC G 1 q_Ha_isInside 0 [some (.ref 3), some (.int a1), some (.int a2)] [] hp (rI F)
  have J1 : ∀ (v1_0 : Int32), v1_0 = ((if a1 < 0 then 0 else ((if (hp.1 3 5) < a1 then 0 else ((if a2 < 0 then 0 else ((if (hp.1 3 6) < a2 then 0 else 1) : Int32)) : Int32)) : Int32)) : Int32) → Rn wC G 1 q_Ha_isInside 29 [some (.ref 3), some (.int a1), some (.int a2)] [.int v1_0] hp (rI F) := by
    rintro _ rfl
    exact rZ_ret d_Ha_isInside_29 rfl (rb_ite (Or.inl rfl) (rb_ite (Or.inl rfl) (rb_ite (Or.inl rfl) (rb_ite (Or.inl rfl) (Or.inr rfl))))) H
  refine r_iload_n (i := 1) d_Ha_isInside_0 rfl rfl ?_
  refine r_if_lt (tgt := 28) d_Ha_isInside_1 (by decide) (fun hc_1 => ?_) (fun hc_1 => ?_)
  · refine r_iconst d_Ha_isInside_28 ic_0 ?_
    exact J1 _ (((if_pos hc_1).trans rfl)).symm
  · refine r_iload_n (i := 1) d_Ha_isInside_4 rfl rfl ?_
    refine r_aload_n (i := 0) d_Ha_isInside_5 rfl rfl ?_
    refine r_getI (b := 3) (v := hp.1 3 5) d_Ha_isInside_6 fl_Ha_28 (by decide) rfl rfl rfl ?_
    refine r_icmp_gt (tgt := 28) d_Ha_isInside_9 (by decide) (fun hc_9 => ?_) (fun hc_9 => ?_)
    · refine r_iconst d_Ha_isInside_28 ic_0 ?_
      exact J1 _ (((if_neg hc_1).trans ((if_pos hc_9).trans rfl))).symm
    · refine r_iload_n (i := 2) d_Ha_isInside_12 rfl rfl ?_
      refine r_if_lt (tgt := 28) d_Ha_isInside_13 (by decide) (fun hc_13 => ?_) (fun hc_13 => ?_)
      · refine r_iconst d_Ha_isInside_28 ic_0 ?_
        exact J1 _ (((if_neg hc_1).trans ((if_neg hc_9).trans ((if_pos hc_13).trans rfl)))).symm
      · refine r_iload_n (i := 2) d_Ha_isInside_16 rfl rfl ?_
        refine r_aload_n (i := 0) d_Ha_isInside_17 rfl rfl ?_
        refine r_getI (b := 3) (v := hp.1 3 6) d_Ha_isInside_18 fl_Ha_31 (by decide) rfl rfl rfl ?_
        refine r_icmp_gt (tgt := 28) d_Ha_isInside_21 (by decide) (fun hc_21 => ?_) (fun hc_21 => ?_)
        · refine r_iconst d_Ha_isInside_28 ic_0 ?_
          exact J1 _ (((if_neg hc_1).trans ((if_neg hc_9).trans ((if_neg hc_13).trans ((if_pos hc_21).trans rfl))))).symm
        · refine r_iconst d_Ha_isInside_24 ic_1 ?_
          refine r_goto (tgt := 29) d_Ha_isInside_25 (by decide) ?_
          exact J1 _ (((if_neg hc_1).trans ((if_neg hc_9).trans ((if_neg hc_13).trans ((if_neg hc_21).trans rfl))))).symm
def f_Ha_isInside (a1 : Int32) (a2 : Int32) (hp : rx_Hp) : Int32 := ((if a1 < 0 then 0 else ((if (hp.1 3 5) < a1 then 0 else ((if a2 < 0 then 0 else ((if (hp.1 3 6) < a2 then 0 else 1) : Int32)) : Int32)) : Int32)) : Int32)
theorem s_Ha_isInside {G : rx_Gh} {hp : rx_Hp} {F : Int32 → rx_Hp → Prop} (a1 : Int32) (a2 : Int32) (H0 : F (f_Ha_isInside a1 a2 hp) hp) : Ev wC G 1 q_Ha_isInside [.ref 3, .int a1, .int a2] hp (rI F) := by
  have H : ∀ v h, v = (f_Ha_isInside a1 a2 hp) → h = hp → F v h := by rintro _ _ rfl rfl; exact H0
  refine w_Ha_isInside a1 a2  ?_
  exact H _ _ (rfl).symm (rfl).symm
theorem b_Ha_isInside (a1 : Int32) (a2 : Int32) (hp : rx_Hp) : (f_Ha_isInside a1 a2 hp) = 0 ∨ (f_Ha_isInside a1 a2 hp) = 1 := (rb_ite (Or.inl rfl) (rb_ite (Or.inl rfl) (rb_ite (Or.inl rfl) (rb_ite (Or.inl rfl) (Or.inr rfl)))))
set_option maxHeartbeats 4000000 in
set_option maxRecDepth 20000 in
theorem w_Ha_brightAfter {G : rx_Gh} {hp : rx_Hp} {F : Int32 → rx_Hp → Prop} (a1 : Int32) (H : (a1 < 0 → F 0 hp) ∧ (¬ a1 < 0 → (21 ≤ a1 → F 0 hp) ∧ (¬ 21 ≤ a1 → vp_in a1 21 ∧ (F (hp.2.1 7 a1.toNatClampNeg) hp)))) : Ev wC G 1 q_Ha_brightAfter [.ref 3, .int a1] hp (rI F) := by
  refine ev_of rfl (Nat.le_of_ble_eq_true rfl) rfl ?_
  show Rn wC G 1 q_Ha_brightAfter 0 [some (.ref 3), some (.int a1)] [] hp (rI F)
  refine r_iload_n (i := 1) d_Ha_brightAfter_0 rfl rfl ?_
  refine r_if_lt (tgt := 22) d_Ha_brightAfter_1 (by decide) (fun hc_1 => ?_) (fun hc_1 => ?_)
  · replace H := H.1 hc_1
    refine r_iconst d_Ha_brightAfter_22 ic_0 ?_
    exact rI_ret d_Ha_brightAfter_23 rfl H
  · replace H := H.2 hc_1
    refine r_iload_n (i := 1) d_Ha_brightAfter_4 rfl rfl ?_
    refine r_aload_n (i := 0) d_Ha_brightAfter_5 rfl rfl ?_
    refine r_getR (b := 3) (r := 7) d_Ha_brightAfter_6 fl_Ha_21 (by decide) rfl rfl rfl ?_
    refine r_alen (b := 7) (n := 21) (v := 21) d_Ha_brightAfter_9 (by decide) rfl al_21 ?_
    refine r_icmp_ge (tgt := 22) d_Ha_brightAfter_10 (by decide) (fun hc_10 => ?_) (fun hc_10 => ?_)
    · replace H := H.1 hc_10
      refine r_iconst d_Ha_brightAfter_22 ic_0 ?_
      exact rI_ret d_Ha_brightAfter_23 rfl H
    · replace H := H.2 hc_10
      refine r_aload_n (i := 0) d_Ha_brightAfter_13 rfl rfl ?_
      refine r_getR (b := 3) (r := 7) d_Ha_brightAfter_14 fl_Ha_21 (by decide) rfl rfl rfl ?_
      refine r_iload_n (i := 1) d_Ha_brightAfter_17 rfl rfl ?_
      obtain ⟨hi_18, H⟩ := H
      refine r_iald (b := 7) (v := hp.2.1 7 a1.toNatClampNeg) d_Ha_brightAfter_18 (by decide) rfl hi_18 rfl ?_
      refine r_goto (tgt := 23) d_Ha_brightAfter_19 (by decide) ?_
      exact rI_ret d_Ha_brightAfter_23 rfl H
def f_Ha_brightAfter (a1 : Int32) (hp : rx_Hp) : Int32 := (if a1 < 0 then 0 else (if 21 ≤ a1 then 0 else (hp.2.1 7 a1.toNatClampNeg)))
def p_Ha_brightAfter (a1 : Int32) : Prop := (¬ a1 < 0 → (¬ 21 ≤ a1 → vp_in a1 21))
theorem s_Ha_brightAfter {G : rx_Gh} {hp : rx_Hp} {F : Int32 → rx_Hp → Prop} (a1 : Int32) (hP : (p_Ha_brightAfter a1)) (H0 : F (f_Ha_brightAfter a1 hp) hp) : Ev wC G 1 q_Ha_brightAfter [.ref 3, .int a1] hp (rI F) := by
  have H : ∀ v h, v = (f_Ha_brightAfter a1 hp) → h = hp → F v h := by rintro _ _ rfl rfl; exact H0
  unfold p_Ha_brightAfter at hP
  refine w_Ha_brightAfter a1  ?_
  refine ⟨fun hc_1 => ?_, fun hc_1 => ?_⟩
  · exact H _ _ (((if_pos hc_1).trans rfl)).symm (rfl).symm
  · refine ⟨fun hc_10 => ?_, fun hc_10 => ?_⟩
    · exact H _ _ (((if_neg hc_1).trans ((if_pos hc_10).trans rfl))).symm (rfl).symm
    · refine ⟨((hP hc_1) hc_10), ?_⟩
      exact H _ _ (((if_neg hc_1).trans ((if_neg hc_10).trans rfl))).symm (rfl).symm
set_option maxHeartbeats 4000000 in
set_option maxRecDepth 20000 in
theorem w_Ha_spot {Ω : rx_Om} {G : rx_Gh} {hp : rx_Hp} {F : Int32 → rx_Hp → Prop} (a1 : Int32) (a2 : Int32) (a3 : Int32) (H : F ((a1 * a2) + ((if (a1 &&& 1) = 0 then a3 else (a2 - a3)) : Int32)) hp) : Ev Ω G 1 q_Ha_spot [.int a1, .int a2, .int a3] hp (rI F) := by
  refine ev_of rfl (Nat.le_of_ble_eq_true rfl) rfl ?_
  show Rn Ω G 1 q_Ha_spot 0 [some (.int a1), some (.int a2), some (.int a3)] [] hp (rI F)
  have J6 : ∀ (v6_0 : Int32), v6_0 = ((if (a1 &&& 1) = 0 then a3 else (a2 - a3)) : Int32) → Rn Ω G 1 q_Ha_spot 16 [some (.int a1), some (.int a2), some (.int a3)] [.int v6_0, .int (a1 * a2)] hp (rI F) := by
    rintro _ rfl
    refine r_iadd d_Ha_spot_16 ?_
    exact rI_ret d_Ha_spot_17 rfl H
  refine r_iload_n (i := 0) d_Ha_spot_0 rfl rfl ?_
  refine r_iload_n (i := 1) d_Ha_spot_1 rfl rfl ?_
  refine r_imul d_Ha_spot_2 ?_
  refine r_iload_n (i := 0) d_Ha_spot_3 rfl rfl ?_
  refine r_iconst d_Ha_spot_4 ic_1 ?_
  refine r_iand d_Ha_spot_5 ?_
  refine r_if_ne (tgt := 13) d_Ha_spot_6 (by decide) (fun hc_6 => ?_) (fun hc_6 => ?_)
  · refine r_iload_n (i := 1) d_Ha_spot_13 rfl rfl ?_
    refine r_iload_n (i := 2) d_Ha_spot_14 rfl rfl ?_
    refine r_isub d_Ha_spot_15 ?_
    exact J6 _ (((if_neg hc_6).trans rfl)).symm
  · refine r_iload_n (i := 2) d_Ha_spot_9 rfl rfl ?_
    refine r_goto (tgt := 16) d_Ha_spot_10 (by decide) ?_
    exact J6 _ (((if_pos hc_6).trans rfl)).symm
def f_Ha_spot (a1 : Int32) (a2 : Int32) (a3 : Int32) : Int32 := (a1 * a2) + ((if (a1 &&& 1) = 0 then a3 else (a2 - a3)) : Int32)
theorem s_Ha_spot {Ω : rx_Om} {G : rx_Gh} {hp : rx_Hp} {F : Int32 → rx_Hp → Prop} (a1 : Int32) (a2 : Int32) (a3 : Int32) (H0 : F (f_Ha_spot a1 a2 a3) hp) : Ev Ω G 1 q_Ha_spot [.int a1, .int a2, .int a3] hp (rI F) := by
  have H : ∀ v h, v = (f_Ha_spot a1 a2 a3) → h = hp → F v h := by rintro _ _ rfl rfl; exact H0
  refine w_Ha_spot a1 a2 a3  ?_
  exact H _ _ (rfl).symm (rfl).symm
set_option maxHeartbeats 4000000 in
set_option maxRecDepth 20000 in
theorem w_Ha_lowCell {Ω : rx_Om} {G : rx_Gh} {hp : rx_Hp} {F : Int32 → rx_Hp → Prop} (a1 : Int32) (H : F ((if a1 = 3 then (-10) else ((if a1 = 1 then (-1) else 0) : Int32)) : Int32) hp) : Ev Ω G 1 q_Ha_lowCell [.int a1] hp (rI F) := by
  refine ev_of rfl (Nat.le_of_ble_eq_true rfl) rfl ?_
  show Rn Ω G 1 q_Ha_lowCell 0 [some (.int a1)] [] hp (rI F)
  have J2 : ∀ (v2_0 : Int32), v2_0 = ((if a1 = 3 then (-10) else ((if a1 = 1 then (-1) else 0) : Int32)) : Int32) → Rn Ω G 1 q_Ha_lowCell 20 [some (.int a1)] [.int v2_0] hp (rI F) := by
    rintro _ rfl
    exact rI_ret d_Ha_lowCell_20 rfl H
  refine r_iload_n (i := 0) d_Ha_lowCell_0 rfl rfl ?_
  refine r_iconst d_Ha_lowCell_1 ic_3 ?_
  refine r_icmp_ne (tgt := 10) d_Ha_lowCell_2 (by decide) (fun hc_2 => ?_) (fun hc_2 => ?_)
  · refine r_iload_n (i := 0) d_Ha_lowCell_10 rfl rfl ?_
    refine r_iconst d_Ha_lowCell_11 ic_1 ?_
    refine r_icmp_ne (tgt := 19) d_Ha_lowCell_12 (by decide) (fun hc_12 => ?_) (fun hc_12 => ?_)
    · refine r_iconst d_Ha_lowCell_19 ic_0 ?_
      exact J2 _ (((if_neg hc_2).trans ((if_neg hc_12).trans rfl))).symm
    · refine r_iconst d_Ha_lowCell_15 ic_m1 ?_
      refine r_goto (tgt := 20) d_Ha_lowCell_16 (by decide) ?_
      exact J2 _ (((if_neg hc_2).trans ((if_pos hc_12).trans rfl))).symm
  · refine r_bipush d_Ha_lowCell_5 bp_m10 ?_
    refine r_goto (tgt := 20) d_Ha_lowCell_7 (by decide) ?_
    exact J2 _ (((if_pos hc_2).trans rfl)).symm
def f_Ha_lowCell (a1 : Int32) : Int32 := ((if a1 = 3 then (-10) else ((if a1 = 1 then (-1) else 0) : Int32)) : Int32)
theorem s_Ha_lowCell {Ω : rx_Om} {G : rx_Gh} {hp : rx_Hp} {F : Int32 → rx_Hp → Prop} (a1 : Int32) (H0 : F (f_Ha_lowCell a1) hp) : Ev Ω G 1 q_Ha_lowCell [.int a1] hp (rI F) := by
  have H : ∀ v h, v = (f_Ha_lowCell a1) → h = hp → F v h := by rintro _ _ rfl rfl; exact H0
  refine w_Ha_lowCell a1  ?_
  exact H _ _ (rfl).symm (rfl).symm
set_option maxHeartbeats 4000000 in
set_option maxRecDepth 20000 in
theorem w_Ha_highCell {Ω : rx_Om} {G : rx_Gh} {hp : rx_Hp} {F : Int32 → rx_Hp → Prop} (a1 : Int32) (H : F ((if a1 = 3 then 10 else ((if a1 = 2 then 1 else 0) : Int32)) : Int32) hp) : Ev Ω G 1 q_Ha_highCell [.int a1] hp (rI F) := by
  refine ev_of rfl (Nat.le_of_ble_eq_true rfl) rfl ?_
  show Rn Ω G 1 q_Ha_highCell 0 [some (.int a1)] [] hp (rI F)
  have J2 : ∀ (v2_0 : Int32), v2_0 = ((if a1 = 3 then 10 else ((if a1 = 2 then 1 else 0) : Int32)) : Int32) → Rn Ω G 1 q_Ha_highCell 20 [some (.int a1)] [.int v2_0] hp (rI F) := by
    rintro _ rfl
    exact rI_ret d_Ha_highCell_20 rfl H
  refine r_iload_n (i := 0) d_Ha_highCell_0 rfl rfl ?_
  refine r_iconst d_Ha_highCell_1 ic_3 ?_
  refine r_icmp_ne (tgt := 10) d_Ha_highCell_2 (by decide) (fun hc_2 => ?_) (fun hc_2 => ?_)
  · refine r_iload_n (i := 0) d_Ha_highCell_10 rfl rfl ?_
    refine r_iconst d_Ha_highCell_11 ic_2 ?_
    refine r_icmp_ne (tgt := 19) d_Ha_highCell_12 (by decide) (fun hc_12 => ?_) (fun hc_12 => ?_)
    · refine r_iconst d_Ha_highCell_19 ic_0 ?_
      exact J2 _ (((if_neg hc_2).trans ((if_neg hc_12).trans rfl))).symm
    · refine r_iconst d_Ha_highCell_15 ic_1 ?_
      refine r_goto (tgt := 20) d_Ha_highCell_16 (by decide) ?_
      exact J2 _ (((if_neg hc_2).trans ((if_pos hc_12).trans rfl))).symm
  · refine r_bipush d_Ha_highCell_5 bp_10 ?_
    refine r_goto (tgt := 20) d_Ha_highCell_7 (by decide) ?_
    exact J2 _ (((if_pos hc_2).trans rfl)).symm
def f_Ha_highCell (a1 : Int32) : Int32 := ((if a1 = 3 then 10 else ((if a1 = 2 then 1 else 0) : Int32)) : Int32)
theorem s_Ha_highCell {Ω : rx_Om} {G : rx_Gh} {hp : rx_Hp} {F : Int32 → rx_Hp → Prop} (a1 : Int32) (H0 : F (f_Ha_highCell a1) hp) : Ev Ω G 1 q_Ha_highCell [.int a1] hp (rI F) := by
  have H : ∀ v h, v = (f_Ha_highCell a1) → h = hp → F v h := by rintro _ _ rfl rfl; exact H0
  refine w_Ha_highCell a1  ?_
  exact H _ _ (rfl).symm (rfl).symm
set_option maxHeartbeats 4000000 in
set_option maxRecDepth 20000 in
theorem w_Ha_lowI {Ω : rx_Om} {G : rx_Gh} {hp : rx_Hp} {F : Int32 → rx_Hp → Prop} (a1 : Int32) (H : F (f_Ha_lowCell (a1 &&& 3)) hp) : Ev Ω G 2 q_Ha_lowI [.int a1] hp (rI F) := by
  refine ev_of rfl (Nat.le_of_ble_eq_true rfl) rfl ?_
  show Rn Ω G 2 q_Ha_lowI 0 [some (.int a1)] [] hp (rI F)
  refine r_iload_n (i := 0) d_Ha_lowI_0 rfl rfl ?_
  refine r_iconst d_Ha_lowI_1 ic_3 ?_
  refine r_iand d_Ha_lowI_2 ?_
  refine rk_SI (d' := 1) [.int (a1 &&& 3)] [] d_Ha_lowI_3 ml_Ha_49 rfl rfl (by decide) (Nat.le_of_ble_eq_true rfl) (s_Ha_lowCell (a1 &&& 3) ?_)
  exact rI_ret d_Ha_lowI_6 rfl H
def f_Ha_lowI (a1 : Int32) : Int32 := (f_Ha_lowCell (a1 &&& 3))
theorem s_Ha_lowI {Ω : rx_Om} {G : rx_Gh} {hp : rx_Hp} {F : Int32 → rx_Hp → Prop} (a1 : Int32) (H0 : F (f_Ha_lowI a1) hp) : Ev Ω G 2 q_Ha_lowI [.int a1] hp (rI F) := by
  have H : ∀ v h, v = (f_Ha_lowI a1) → h = hp → F v h := by rintro _ _ rfl rfl; exact H0
  refine w_Ha_lowI a1  ?_
  exact H _ _ (rfl).symm (rfl).symm
set_option maxHeartbeats 4000000 in
set_option maxRecDepth 20000 in
theorem w_Ha_highI {Ω : rx_Om} {G : rx_Gh} {hp : rx_Hp} {F : Int32 → rx_Hp → Prop} (a1 : Int32) (H : F (f_Ha_highCell (a1 &&& 3)) hp) : Ev Ω G 2 q_Ha_highI [.int a1] hp (rI F) := by
  refine ev_of rfl (Nat.le_of_ble_eq_true rfl) rfl ?_
  show Rn Ω G 2 q_Ha_highI 0 [some (.int a1)] [] hp (rI F)
  refine r_iload_n (i := 0) d_Ha_highI_0 rfl rfl ?_
  refine r_iconst d_Ha_highI_1 ic_3 ?_
  refine r_iand d_Ha_highI_2 ?_
  refine rk_SI (d' := 1) [.int (a1 &&& 3)] [] d_Ha_highI_3 ml_Ha_53 rfl rfl (by decide) (Nat.le_of_ble_eq_true rfl) (s_Ha_highCell (a1 &&& 3) ?_)
  exact rI_ret d_Ha_highI_6 rfl H
def f_Ha_highI (a1 : Int32) : Int32 := (f_Ha_highCell (a1 &&& 3))
theorem s_Ha_highI {Ω : rx_Om} {G : rx_Gh} {hp : rx_Hp} {F : Int32 → rx_Hp → Prop} (a1 : Int32) (H0 : F (f_Ha_highI a1) hp) : Ev Ω G 2 q_Ha_highI [.int a1] hp (rI F) := by
  have H : ∀ v h, v = (f_Ha_highI a1) → h = hp → F v h := by rintro _ _ rfl rfl; exact H0
  refine w_Ha_highI a1  ?_
  exact H _ _ (rfl).symm (rfl).symm
set_option maxHeartbeats 4000000 in
set_option maxRecDepth 20000 in
theorem w_Ha_lowJ {Ω : rx_Om} {G : rx_Gh} {hp : rx_Hp} {F : Int32 → rx_Hp → Prop} (a1 : Int32) (H : F (f_Ha_lowCell ((a1 >>> (2 &&& 31)) &&& 3)) hp) : Ev Ω G 2 q_Ha_lowJ [.int a1] hp (rI F) := by
  refine ev_of rfl (Nat.le_of_ble_eq_true rfl) rfl ?_
  show Rn Ω G 2 q_Ha_lowJ 0 [some (.int a1)] [] hp (rI F)
  refine r_iload_n (i := 0) d_Ha_lowJ_0 rfl rfl ?_
  refine r_iconst d_Ha_lowJ_1 ic_2 ?_
  refine r_ishr d_Ha_lowJ_2 ?_
  refine r_iconst d_Ha_lowJ_3 ic_3 ?_
  refine r_iand d_Ha_lowJ_4 ?_
  refine rk_SI (d' := 1) [.int ((a1 >>> (2 &&& 31)) &&& 3)] [] d_Ha_lowJ_5 ml_Ha_49 rfl rfl (by decide) (Nat.le_of_ble_eq_true rfl) (s_Ha_lowCell ((a1 >>> (2 &&& 31)) &&& 3) ?_)
  exact rI_ret d_Ha_lowJ_8 rfl H
def f_Ha_lowJ (a1 : Int32) : Int32 := (f_Ha_lowCell ((a1 >>> (2 &&& 31)) &&& 3))
theorem s_Ha_lowJ {Ω : rx_Om} {G : rx_Gh} {hp : rx_Hp} {F : Int32 → rx_Hp → Prop} (a1 : Int32) (H0 : F (f_Ha_lowJ a1) hp) : Ev Ω G 2 q_Ha_lowJ [.int a1] hp (rI F) := by
  have H : ∀ v h, v = (f_Ha_lowJ a1) → h = hp → F v h := by rintro _ _ rfl rfl; exact H0
  refine w_Ha_lowJ a1  ?_
  exact H _ _ (rfl).symm (rfl).symm
set_option maxHeartbeats 4000000 in
set_option maxRecDepth 20000 in
theorem w_Ha_highJ {Ω : rx_Om} {G : rx_Gh} {hp : rx_Hp} {F : Int32 → rx_Hp → Prop} (a1 : Int32) (H : F (f_Ha_highCell ((a1 >>> (2 &&& 31)) &&& 3)) hp) : Ev Ω G 2 q_Ha_highJ [.int a1] hp (rI F) := by
  refine ev_of rfl (Nat.le_of_ble_eq_true rfl) rfl ?_
  show Rn Ω G 2 q_Ha_highJ 0 [some (.int a1)] [] hp (rI F)
  refine r_iload_n (i := 0) d_Ha_highJ_0 rfl rfl ?_
  refine r_iconst d_Ha_highJ_1 ic_2 ?_
  refine r_ishr d_Ha_highJ_2 ?_
  refine r_iconst d_Ha_highJ_3 ic_3 ?_
  refine r_iand d_Ha_highJ_4 ?_
  refine rk_SI (d' := 1) [.int ((a1 >>> (2 &&& 31)) &&& 3)] [] d_Ha_highJ_5 ml_Ha_53 rfl rfl (by decide) (Nat.le_of_ble_eq_true rfl) (s_Ha_highCell ((a1 >>> (2 &&& 31)) &&& 3) ?_)
  exact rI_ret d_Ha_highJ_8 rfl H
def f_Ha_highJ (a1 : Int32) : Int32 := (f_Ha_highCell ((a1 >>> (2 &&& 31)) &&& 3))
theorem s_Ha_highJ {Ω : rx_Om} {G : rx_Gh} {hp : rx_Hp} {F : Int32 → rx_Hp → Prop} (a1 : Int32) (H0 : F (f_Ha_highJ a1) hp) : Ev Ω G 2 q_Ha_highJ [.int a1] hp (rI F) := by
  have H : ∀ v h, v = (f_Ha_highJ a1) → h = hp → F v h := by rintro _ _ rfl rfl; exact H0
  refine w_Ha_highJ a1  ?_
  exact H _ _ (rfl).symm (rfl).symm
set_option maxHeartbeats 4000000 in
set_option maxRecDepth 20000 in
theorem w_Ha_isThere {Ω : rx_Om} {G : rx_Gh} {hp : rx_Hp} {F : Int32 → rx_Hp → Prop} (a1 : Int32) (a2 : Int32) (a3 : Int32) (H : F ((if a2 < (f_Ha_lowI a1) then 0 else ((if (f_Ha_highI a1) < a2 then 0 else ((if a3 < (f_Ha_lowJ a1) then 0 else ((if (f_Ha_highJ a1) < a3 then 0 else 1) : Int32)) : Int32)) : Int32)) : Int32) hp) : Ev Ω G 3 q_Ha_isThere [.int a1, .int a2, .int a3] hp (rI F) := by
  refine ev_of rfl (Nat.le_of_ble_eq_true rfl) rfl ?_
  show Rn Ω G 3 q_Ha_isThere 0 [some (.int a1), some (.int a2), some (.int a3)] [] hp (rI F)
  have J5 : ∀ (v5_0 : Int32), v5_0 = ((if a2 < (f_Ha_lowI a1) then 0 else ((if (f_Ha_highI a1) < a2 then 0 else ((if a3 < (f_Ha_lowJ a1) then 0 else ((if (f_Ha_highJ a1) < a3 then 0 else 1) : Int32)) : Int32)) : Int32)) : Int32) → Rn Ω G 3 q_Ha_isThere 37 [some (.int a1), some (.int a2), some (.int a3)] [.int v5_0] hp (rI F) := by
    rintro _ rfl
    exact rZ_ret d_Ha_isThere_37 rfl (rb_ite (Or.inl rfl) (rb_ite (Or.inl rfl) (rb_ite (Or.inl rfl) (rb_ite (Or.inl rfl) (Or.inr rfl))))) H
  refine r_iload_n (i := 1) d_Ha_isThere_0 rfl rfl ?_
  refine r_iload_n (i := 0) d_Ha_isThere_1 rfl rfl ?_
  refine rk_SI (d' := 2) [.int a1] [.int a2] d_Ha_isThere_2 ml_Ha_56 rfl rfl (by decide) (Nat.le_of_ble_eq_true rfl) (s_Ha_lowI a1 ?_)
  refine r_icmp_lt (tgt := 36) d_Ha_isThere_5 (by decide) (fun hc_5 => ?_) (fun hc_5 => ?_)
  · refine r_iconst d_Ha_isThere_36 ic_0 ?_
    exact J5 _ (((if_pos hc_5).trans rfl)).symm
  · refine r_iload_n (i := 1) d_Ha_isThere_8 rfl rfl ?_
    refine r_iload_n (i := 0) d_Ha_isThere_9 rfl rfl ?_
    refine rk_SI (d' := 2) [.int a1] [.int a2] d_Ha_isThere_10 ml_Ha_59 rfl rfl (by decide) (Nat.le_of_ble_eq_true rfl) (s_Ha_highI a1 ?_)
    refine r_icmp_gt (tgt := 36) d_Ha_isThere_13 (by decide) (fun hc_13 => ?_) (fun hc_13 => ?_)
    · refine r_iconst d_Ha_isThere_36 ic_0 ?_
      exact J5 _ (((if_neg hc_5).trans ((if_pos hc_13).trans rfl))).symm
    · refine r_iload_n (i := 2) d_Ha_isThere_16 rfl rfl ?_
      refine r_iload_n (i := 0) d_Ha_isThere_17 rfl rfl ?_
      refine rk_SI (d' := 2) [.int a1] [.int a3] d_Ha_isThere_18 ml_Ha_62 rfl rfl (by decide) (Nat.le_of_ble_eq_true rfl) (s_Ha_lowJ a1 ?_)
      refine r_icmp_lt (tgt := 36) d_Ha_isThere_21 (by decide) (fun hc_21 => ?_) (fun hc_21 => ?_)
      · refine r_iconst d_Ha_isThere_36 ic_0 ?_
        exact J5 _ (((if_neg hc_5).trans ((if_neg hc_13).trans ((if_pos hc_21).trans rfl)))).symm
      · refine r_iload_n (i := 2) d_Ha_isThere_24 rfl rfl ?_
        refine r_iload_n (i := 0) d_Ha_isThere_25 rfl rfl ?_
        refine rk_SI (d' := 2) [.int a1] [.int a3] d_Ha_isThere_26 ml_Ha_65 rfl rfl (by decide) (Nat.le_of_ble_eq_true rfl) (s_Ha_highJ a1 ?_)
        refine r_icmp_gt (tgt := 36) d_Ha_isThere_29 (by decide) (fun hc_29 => ?_) (fun hc_29 => ?_)
        · refine r_iconst d_Ha_isThere_36 ic_0 ?_
          exact J5 _ (((if_neg hc_5).trans ((if_neg hc_13).trans ((if_neg hc_21).trans ((if_pos hc_29).trans rfl))))).symm
        · refine r_iconst d_Ha_isThere_32 ic_1 ?_
          refine r_goto (tgt := 37) d_Ha_isThere_33 (by decide) ?_
          exact J5 _ (((if_neg hc_5).trans ((if_neg hc_13).trans ((if_neg hc_21).trans ((if_neg hc_29).trans rfl))))).symm
def f_Ha_isThere (a1 : Int32) (a2 : Int32) (a3 : Int32) : Int32 := ((if a2 < (f_Ha_lowI a1) then 0 else ((if (f_Ha_highI a1) < a2 then 0 else ((if a3 < (f_Ha_lowJ a1) then 0 else ((if (f_Ha_highJ a1) < a3 then 0 else 1) : Int32)) : Int32)) : Int32)) : Int32)
theorem s_Ha_isThere {Ω : rx_Om} {G : rx_Gh} {hp : rx_Hp} {F : Int32 → rx_Hp → Prop} (a1 : Int32) (a2 : Int32) (a3 : Int32) (H0 : F (f_Ha_isThere a1 a2 a3) hp) : Ev Ω G 3 q_Ha_isThere [.int a1, .int a2, .int a3] hp (rI F) := by
  have H : ∀ v h, v = (f_Ha_isThere a1 a2 a3) → h = hp → F v h := by rintro _ _ rfl rfl; exact H0
  refine w_Ha_isThere a1 a2 a3  ?_
  exact H _ _ (rfl).symm (rfl).symm
theorem b_Ha_isThere (a1 : Int32) (a2 : Int32) (a3 : Int32) : (f_Ha_isThere a1 a2 a3) = 0 ∨ (f_Ha_isThere a1 a2 a3) = 1 := (rb_ite (Or.inl rfl) (rb_ite (Or.inl rfl) (rb_ite (Or.inl rfl) (rb_ite (Or.inl rfl) (Or.inr rfl)))))
set_option maxHeartbeats 4000000 in
set_option maxRecDepth 20000 in
theorem w_Ha_wander {G : rx_Gh} {hp : rx_Hp} {F : rx_Hp → Prop} (a1 : Int32) (a2 : Int32) (H : vp_in a1 6 ∧ (((f_Ha_isInside ((hp.2.1 4 a1.toNatClampNeg) + ((if a2 = 1 then 1 else ((if a2 = 3 then (-1) else 0) : Int32)) : Int32)) ((hp.2.1 5 a1.toNatClampNeg) + ((if a2 = 2 then 1 else ((if a2 = 4 then (-1) else 0) : Int32)) : Int32)) hp) = 0 → F hp) ∧ (¬ (f_Ha_isInside ((hp.2.1 4 a1.toNatClampNeg) + ((if a2 = 1 then 1 else ((if a2 = 3 then (-1) else 0) : Int32)) : Int32)) ((hp.2.1 5 a1.toNatClampNeg) + ((if a2 = 2 then 1 else ((if a2 = 4 then (-1) else 0) : Int32)) : Int32)) hp) = 0 → F (rx_pa (rx_pa hp 4 a1.toNatClampNeg ((hp.2.1 4 a1.toNatClampNeg) + ((if a2 = 1 then 1 else ((if a2 = 3 then (-1) else 0) : Int32)) : Int32))) 5 a1.toNatClampNeg ((hp.2.1 5 a1.toNatClampNeg) + ((if a2 = 2 then 1 else ((if a2 = 4 then (-1) else 0) : Int32)) : Int32)))))) : Ev wC G 2 q_Ha_wander [.ref 3, .int a1, .int a2] hp (rV F) := by
  refine ev_of rfl (Nat.le_of_ble_eq_true rfl) rfl ?_
  show Rn wC G 2 q_Ha_wander 0 [some (.ref 3), some (.int a1), some (.int a2), none, none] [] hp (rV F)
  refine r_aload_n (i := 0) d_Ha_wander_0 rfl rfl ?_
  refine r_getR (b := 3) (r := 4) d_Ha_wander_1 fl_Ha_9 (by decide) rfl rfl rfl ?_
  refine r_iload_n (i := 1) d_Ha_wander_4 rfl rfl ?_
  obtain ⟨hi_5, H⟩ := H
  refine r_iald (b := 4) (v := hp.2.1 4 a1.toNatClampNeg) d_Ha_wander_5 (by decide) rfl hi_5 rfl ?_
  have J8 : ∀ (v8_0 : Int32), v8_0 = ((if a2 = 1 then 1 else ((if a2 = 3 then (-1) else 0) : Int32)) : Int32) → Rn wC G 2 q_Ha_wander 25 [some (.ref 3), some (.int a1), some (.int a2), none, none] [.int v8_0, .int (hp.2.1 4 a1.toNatClampNeg)] hp (rV F) := by
    rintro _ rfl
    have J35 : ∀ (v35_0 : Int32), v35_0 = ((if a2 = 2 then 1 else ((if a2 = 4 then (-1) else 0) : Int32)) : Int32) → Rn wC G 2 q_Ha_wander 52 [some (.ref 3), some (.int a1), some (.int a2), some (.int ((hp.2.1 4 a1.toNatClampNeg) + ((if a2 = 1 then 1 else ((if a2 = 3 then (-1) else 0) : Int32)) : Int32))), none] [.int v35_0, .int (hp.2.1 5 a1.toNatClampNeg)] hp (rV F) := by
      rintro _ rfl
      refine r_iadd d_Ha_wander_52 ?_
      refine r_istore (lz := [some (.ref 3), some (.int a1), some (.int a2), some (.int ((hp.2.1 4 a1.toNatClampNeg) + ((if a2 = 1 then 1 else ((if a2 = 3 then (-1) else 0) : Int32)) : Int32))), some (.int ((hp.2.1 5 a1.toNatClampNeg) + ((if a2 = 2 then 1 else ((if a2 = 4 then (-1) else 0) : Int32)) : Int32)))]) d_Ha_wander_53 (by decide) rfl rfl ?_
      refine r_aload_n (i := 0) d_Ha_wander_55 rfl rfl ?_
      refine r_iload_n (i := 3) d_Ha_wander_56 rfl rfl ?_
      refine r_iload d_Ha_wander_57 rfl ?_
      refine rk_VI (b := 3) (d' := 1) [.int ((hp.2.1 4 a1.toNatClampNeg) + ((if a2 = 1 then 1 else ((if a2 = 3 then (-1) else 0) : Int32)) : Int32)), .int ((hp.2.1 5 a1.toNatClampNeg) + ((if a2 = 2 then 1 else ((if a2 = 4 then (-1) else 0) : Int32)) : Int32))] [] d_Ha_wander_59 ml_Ha_41 rfl rfl (by decide) (by decide) rfl rfl (Nat.le_of_ble_eq_true rfl) (s_Ha_isInside ((hp.2.1 4 a1.toNatClampNeg) + ((if a2 = 1 then 1 else ((if a2 = 3 then (-1) else 0) : Int32)) : Int32)) ((hp.2.1 5 a1.toNatClampNeg) + ((if a2 = 2 then 1 else ((if a2 = 4 then (-1) else 0) : Int32)) : Int32)) ?_)
      refine r_if_eq (tgt := 80) d_Ha_wander_62 (by decide) (fun hc_62 => ?_) (fun hc_62 => ?_)
      · replace H := H.1 hc_62
        exact rV_ret d_Ha_wander_80 rfl H
      · replace H := H.2 hc_62
        refine r_aload_n (i := 0) d_Ha_wander_65 rfl rfl ?_
        refine r_getR (b := 3) (r := 4) d_Ha_wander_66 fl_Ha_9 (by decide) rfl rfl rfl ?_
        refine r_iload_n (i := 1) d_Ha_wander_69 rfl rfl ?_
        refine r_iload_n (i := 3) d_Ha_wander_70 rfl rfl ?_
        refine r_iast (b := 4) (i := a1.toNatClampNeg) d_Ha_wander_71 (by decide) rfl hi_5 rfl ?_
        refine r_aload_n (i := 0) d_Ha_wander_72 rfl rfl ?_
        refine r_getR (b := 3) (r := 5) d_Ha_wander_73 fl_Ha_15 (by decide) rfl rfl rfl ?_
        refine r_iload_n (i := 1) d_Ha_wander_76 rfl rfl ?_
        refine r_iload d_Ha_wander_77 rfl ?_
        refine r_iast (b := 5) (i := a1.toNatClampNeg) d_Ha_wander_79 (by decide) rfl hi_5 rfl ?_
        exact rV_ret d_Ha_wander_80 rfl H
    refine r_iadd d_Ha_wander_25 ?_
    refine r_istore_n (i := 3) (lz := [some (.ref 3), some (.int a1), some (.int a2), some (.int ((hp.2.1 4 a1.toNatClampNeg) + ((if a2 = 1 then 1 else ((if a2 = 3 then (-1) else 0) : Int32)) : Int32))), none]) d_Ha_wander_26 rfl (by decide) rfl rfl ?_
    refine r_aload_n (i := 0) d_Ha_wander_27 rfl rfl ?_
    refine r_getR (b := 3) (r := 5) d_Ha_wander_28 fl_Ha_15 (by decide) rfl rfl rfl ?_
    refine r_iload_n (i := 1) d_Ha_wander_31 rfl rfl ?_
    refine r_iald (b := 5) (v := hp.2.1 5 a1.toNatClampNeg) d_Ha_wander_32 (by decide) rfl hi_5 rfl ?_
    refine r_iload_n (i := 2) d_Ha_wander_33 rfl rfl ?_
    refine r_iconst d_Ha_wander_34 ic_2 ?_
    refine r_icmp_ne (tgt := 42) d_Ha_wander_35 (by decide) (fun hc_35 => ?_) (fun hc_35 => ?_)
    · refine r_iload_n (i := 2) d_Ha_wander_42 rfl rfl ?_
      refine r_iconst d_Ha_wander_43 ic_4 ?_
      refine r_icmp_ne (tgt := 51) d_Ha_wander_44 (by decide) (fun hc_44 => ?_) (fun hc_44 => ?_)
      · refine r_iconst d_Ha_wander_51 ic_0 ?_
        exact J35 _ (((if_neg hc_35).trans ((if_neg hc_44).trans rfl))).symm
      · refine r_iconst d_Ha_wander_47 ic_m1 ?_
        refine r_goto (tgt := 52) d_Ha_wander_48 (by decide) ?_
        exact J35 _ (((if_neg hc_35).trans ((if_pos hc_44).trans rfl))).symm
    · refine r_iconst d_Ha_wander_38 ic_1 ?_
      refine r_goto (tgt := 52) d_Ha_wander_39 (by decide) ?_
      exact J35 _ (((if_pos hc_35).trans rfl)).symm
  refine r_iload_n (i := 2) d_Ha_wander_6 rfl rfl ?_
  refine r_iconst d_Ha_wander_7 ic_1 ?_
  refine r_icmp_ne (tgt := 15) d_Ha_wander_8 (by decide) (fun hc_8 => ?_) (fun hc_8 => ?_)
  · refine r_iload_n (i := 2) d_Ha_wander_15 rfl rfl ?_
    refine r_iconst d_Ha_wander_16 ic_3 ?_
    refine r_icmp_ne (tgt := 24) d_Ha_wander_17 (by decide) (fun hc_17 => ?_) (fun hc_17 => ?_)
    · refine r_iconst d_Ha_wander_24 ic_0 ?_
      exact J8 _ (((if_neg hc_8).trans ((if_neg hc_17).trans rfl))).symm
    · refine r_iconst d_Ha_wander_20 ic_m1 ?_
      refine r_goto (tgt := 25) d_Ha_wander_21 (by decide) ?_
      exact J8 _ (((if_neg hc_8).trans ((if_pos hc_17).trans rfl))).symm
  · refine r_iconst d_Ha_wander_11 ic_1 ?_
    refine r_goto (tgt := 25) d_Ha_wander_12 (by decide) ?_
    exact J8 _ (((if_pos hc_8).trans rfl)).symm
def g_Ha_wander (a1 : Int32) (a2 : Int32) (hp : rx_Hp) : rx_Hp := (if (f_Ha_isInside ((hp.2.1 4 a1.toNatClampNeg) + ((if a2 = 1 then 1 else ((if a2 = 3 then (-1) else 0) : Int32)) : Int32)) ((hp.2.1 5 a1.toNatClampNeg) + ((if a2 = 2 then 1 else ((if a2 = 4 then (-1) else 0) : Int32)) : Int32)) hp) = 0 then hp else (rx_pa (rx_pa hp 4 a1.toNatClampNeg ((hp.2.1 4 a1.toNatClampNeg) + ((if a2 = 1 then 1 else ((if a2 = 3 then (-1) else 0) : Int32)) : Int32))) 5 a1.toNatClampNeg ((hp.2.1 5 a1.toNatClampNeg) + ((if a2 = 2 then 1 else ((if a2 = 4 then (-1) else 0) : Int32)) : Int32))))
def p_Ha_wander (a1 : Int32) (a2 : Int32) : Prop := vp_in a1 6
theorem s_Ha_wander {G : rx_Gh} {hp : rx_Hp} {F : rx_Hp → Prop} (a1 : Int32) (a2 : Int32) (hP : (p_Ha_wander a1 a2)) (H0 : F (g_Ha_wander a1 a2 hp)) : Ev wC G 2 q_Ha_wander [.ref 3, .int a1, .int a2] hp (rV F) := by
  have H : ∀ h, h = (g_Ha_wander a1 a2 hp) → F h := by rintro _ rfl; exact H0
  unfold p_Ha_wander at hP
  refine w_Ha_wander a1 a2  ?_
  refine ⟨hP, ?_⟩
  refine ⟨fun hc_62 => ?_, fun hc_62 => ?_⟩
  · exact H _ (((if_pos hc_62).trans rfl)).symm
  · exact H _ (((if_neg hc_62).trans rfl)).symm
set_option maxHeartbeats 4000000 in
set_option maxRecDepth 20000 in
theorem w_Ha_farFrom {G : rx_Gh} {hp : rx_Hp} {F : Int32 → rx_Hp → Prop} (a1 : Int32) (a2 : Int32) (a3 : Int32) (a4 : Int32) (H : vp_in a2 6 ∧ (vp_in a1 6 ∧ (F ((((f_Ha_spot a3 (hp.1 3 5) (hp.2.1 4 a2.toNatClampNeg)) - (hp.2.1 4 a1.toNatClampNeg)) * ((f_Ha_spot a3 (hp.1 3 5) (hp.2.1 4 a2.toNatClampNeg)) - (hp.2.1 4 a1.toNatClampNeg))) + (((f_Ha_spot a4 (hp.1 3 6) (hp.2.1 5 a2.toNatClampNeg)) - (hp.2.1 5 a1.toNatClampNeg)) * ((f_Ha_spot a4 (hp.1 3 6) (hp.2.1 5 a2.toNatClampNeg)) - (hp.2.1 5 a1.toNatClampNeg)))) hp))) : Ev wC G 2 q_Ha_farFrom [.ref 3, .int a1, .int a2, .int a3, .int a4] hp (rI F) := by
  refine ev_of rfl (Nat.le_of_ble_eq_true rfl) rfl ?_
  show Rn wC G 2 q_Ha_farFrom 0 [some (.ref 3), some (.int a1), some (.int a2), some (.int a3), some (.int a4), none, none] [] hp (rI F)
  refine r_iload_n (i := 3) d_Ha_farFrom_0 rfl rfl ?_
  refine r_aload_n (i := 0) d_Ha_farFrom_1 rfl rfl ?_
  refine r_getI (b := 3) (v := hp.1 3 5) d_Ha_farFrom_2 fl_Ha_28 (by decide) rfl rfl rfl ?_
  refine r_aload_n (i := 0) d_Ha_farFrom_5 rfl rfl ?_
  refine r_getR (b := 3) (r := 4) d_Ha_farFrom_6 fl_Ha_9 (by decide) rfl rfl rfl ?_
  refine r_iload_n (i := 2) d_Ha_farFrom_9 rfl rfl ?_
  obtain ⟨hi_10, H⟩ := H
  refine r_iald (b := 4) (v := hp.2.1 4 a2.toNatClampNeg) d_Ha_farFrom_10 (by decide) rfl hi_10 rfl ?_
  refine rk_SI (d' := 1) [.int a3, .int (hp.1 3 5), .int (hp.2.1 4 a2.toNatClampNeg)] [] d_Ha_farFrom_11 ml_Ha_45 rfl rfl (by decide) (Nat.le_of_ble_eq_true rfl) (s_Ha_spot a3 (hp.1 3 5) (hp.2.1 4 a2.toNatClampNeg) ?_)
  refine r_aload_n (i := 0) d_Ha_farFrom_14 rfl rfl ?_
  refine r_getR (b := 3) (r := 4) d_Ha_farFrom_15 fl_Ha_9 (by decide) rfl rfl rfl ?_
  refine r_iload_n (i := 1) d_Ha_farFrom_18 rfl rfl ?_
  obtain ⟨hi_19, H⟩ := H
  refine r_iald (b := 4) (v := hp.2.1 4 a1.toNatClampNeg) d_Ha_farFrom_19 (by decide) rfl hi_19 rfl ?_
  refine r_isub d_Ha_farFrom_20 ?_
  refine r_istore (lz := [some (.ref 3), some (.int a1), some (.int a2), some (.int a3), some (.int a4), some (.int ((f_Ha_spot a3 (hp.1 3 5) (hp.2.1 4 a2.toNatClampNeg)) - (hp.2.1 4 a1.toNatClampNeg))), none]) d_Ha_farFrom_21 (by decide) rfl rfl ?_
  refine r_iload d_Ha_farFrom_23 rfl ?_
  refine r_aload_n (i := 0) d_Ha_farFrom_25 rfl rfl ?_
  refine r_getI (b := 3) (v := hp.1 3 6) d_Ha_farFrom_26 fl_Ha_31 (by decide) rfl rfl rfl ?_
  refine r_aload_n (i := 0) d_Ha_farFrom_29 rfl rfl ?_
  refine r_getR (b := 3) (r := 5) d_Ha_farFrom_30 fl_Ha_15 (by decide) rfl rfl rfl ?_
  refine r_iload_n (i := 2) d_Ha_farFrom_33 rfl rfl ?_
  refine r_iald (b := 5) (v := hp.2.1 5 a2.toNatClampNeg) d_Ha_farFrom_34 (by decide) rfl hi_10 rfl ?_
  refine rk_SI (d' := 1) [.int a4, .int (hp.1 3 6), .int (hp.2.1 5 a2.toNatClampNeg)] [] d_Ha_farFrom_35 ml_Ha_45 rfl rfl (by decide) (Nat.le_of_ble_eq_true rfl) (s_Ha_spot a4 (hp.1 3 6) (hp.2.1 5 a2.toNatClampNeg) ?_)
  refine r_aload_n (i := 0) d_Ha_farFrom_38 rfl rfl ?_
  refine r_getR (b := 3) (r := 5) d_Ha_farFrom_39 fl_Ha_15 (by decide) rfl rfl rfl ?_
  refine r_iload_n (i := 1) d_Ha_farFrom_42 rfl rfl ?_
  refine r_iald (b := 5) (v := hp.2.1 5 a1.toNatClampNeg) d_Ha_farFrom_43 (by decide) rfl hi_19 rfl ?_
  refine r_isub d_Ha_farFrom_44 ?_
  refine r_istore (lz := [some (.ref 3), some (.int a1), some (.int a2), some (.int a3), some (.int a4), some (.int ((f_Ha_spot a3 (hp.1 3 5) (hp.2.1 4 a2.toNatClampNeg)) - (hp.2.1 4 a1.toNatClampNeg))), some (.int ((f_Ha_spot a4 (hp.1 3 6) (hp.2.1 5 a2.toNatClampNeg)) - (hp.2.1 5 a1.toNatClampNeg)))]) d_Ha_farFrom_45 (by decide) rfl rfl ?_
  refine r_iload d_Ha_farFrom_47 rfl ?_
  refine r_iload d_Ha_farFrom_49 rfl ?_
  refine r_imul d_Ha_farFrom_51 ?_
  refine r_iload d_Ha_farFrom_52 rfl ?_
  refine r_iload d_Ha_farFrom_54 rfl ?_
  refine r_imul d_Ha_farFrom_56 ?_
  refine r_iadd d_Ha_farFrom_57 ?_
  exact rI_ret d_Ha_farFrom_58 rfl H
def f_Ha_farFrom (a1 : Int32) (a2 : Int32) (a3 : Int32) (a4 : Int32) (hp : rx_Hp) : Int32 := (((f_Ha_spot a3 (hp.1 3 5) (hp.2.1 4 a2.toNatClampNeg)) - (hp.2.1 4 a1.toNatClampNeg)) * ((f_Ha_spot a3 (hp.1 3 5) (hp.2.1 4 a2.toNatClampNeg)) - (hp.2.1 4 a1.toNatClampNeg))) + (((f_Ha_spot a4 (hp.1 3 6) (hp.2.1 5 a2.toNatClampNeg)) - (hp.2.1 5 a1.toNatClampNeg)) * ((f_Ha_spot a4 (hp.1 3 6) (hp.2.1 5 a2.toNatClampNeg)) - (hp.2.1 5 a1.toNatClampNeg)))
def p_Ha_farFrom (a1 : Int32) (a2 : Int32) (a3 : Int32) (a4 : Int32) : Prop := vp_in a2 6 ∧ (vp_in a1 6)
theorem s_Ha_farFrom {G : rx_Gh} {hp : rx_Hp} {F : Int32 → rx_Hp → Prop} (a1 : Int32) (a2 : Int32) (a3 : Int32) (a4 : Int32) (hP : (p_Ha_farFrom a1 a2 a3 a4)) (H0 : F (f_Ha_farFrom a1 a2 a3 a4 hp) hp) : Ev wC G 2 q_Ha_farFrom [.ref 3, .int a1, .int a2, .int a3, .int a4] hp (rI F) := by
  have H : ∀ v h, v = (f_Ha_farFrom a1 a2 a3 a4 hp) → h = hp → F v h := by rintro _ _ rfl rfl; exact H0
  unfold p_Ha_farFrom at hP
  refine w_Ha_farFrom a1 a2 a3 a4  ?_
  refine ⟨hP.1, ?_⟩
  refine ⟨hP.2, ?_⟩
  exact H _ _ (rfl).symm (rfl).symm

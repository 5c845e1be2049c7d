theorem d_Ha_stands_0 : decode q_Ha_stands.2.1 0 = .ok (.aload_n 0, 1) := by decide +kernel
theorem d_Ha_stands_1 : decode q_Ha_stands.2.1 1 = .ok (.getfield 24, 3) := by decide +kernel
theorem fl_Ha_24 : rx_F "GlassRoom$Hall" 24 3 4 := ⟨(RX3, TX3, 9), rfl, by decide, (rx_s1 80 rfl rfl), rx_T3⟩
theorem d_Ha_stands_4 : decode q_Ha_stands.2.1 4 = .ok (.ifCond .le 7, 3) := by decide +kernel
theorem d_Ha_stands_11 : decode q_Ha_stands.2.1 11 = .ok (.iconst 0, 1) := by decide +kernel
theorem ic_0 : Int32.ofInt (0) = (0 : Int32) := by decide
theorem d_Ha_stands_12 : decode q_Ha_stands.2.1 12 = .ok (.ireturn, 1) := by decide +kernel
theorem d_Ha_stands_7 : decode q_Ha_stands.2.1 7 = .ok (.iconst 1, 1) := by decide +kernel
theorem ic_1 : Int32.ofInt (1) = (1 : Int32) := by decide
theorem d_Ha_stands_8 : decode q_Ha_stands.2.1 8 = .ok (.goto 4, 3) := by decide +kernel
theorem d_Ha_has_0 : decode q_Ha_has.2.1 0 = .ok (.iload_n 1, 1) := by decide +kernel
theorem d_Ha_has_1 : decode q_Ha_has.2.1 1 = .ok (.ifCond .lt 15, 3) := by decide +kernel
theorem d_Ha_has_16 : decode q_Ha_has.2.1 16 = .ok (.iconst 0, 1) := by decide +kernel
theorem d_Ha_has_17 : decode q_Ha_has.2.1 17 = .ok (.ireturn, 1) := by decide +kernel
theorem d_Ha_has_4 : decode q_Ha_has.2.1 4 = .ok (.iload_n 1, 1) := by decide +kernel
theorem d_Ha_has_5 : decode q_Ha_has.2.1 5 = .ok (.aload_n 0, 1) := by decide +kernel
theorem d_Ha_has_6 : decode q_Ha_has.2.1 6 = .ok (.getfield 24, 3) := by decide +kernel
theorem d_Ha_has_9 : decode q_Ha_has.2.1 9 = .ok (.if_icmp .ge 7, 3) := by decide +kernel
theorem d_Ha_has_12 : decode q_Ha_has.2.1 12 = .ok (.iconst 1, 1) := by decide +kernel
theorem d_Ha_has_13 : decode q_Ha_has.2.1 13 = .ok (.goto 4, 3) := by decide +kernel
theorem d_Ha_isInside_0 : decode q_Ha_isInside.2.1 0 = .ok (.iload_n 1, 1) := by decide +kernel
theorem d_Ha_isInside_1 : decode q_Ha_isInside.2.1 1 = .ok (.ifCond .lt 27, 3) := by decide +kernel
theorem d_Ha_isInside_28 : decode q_Ha_isInside.2.1 28 = .ok (.iconst 0, 1) := by decide +kernel
theorem d_Ha_isInside_29 : decode q_Ha_isInside.2.1 29 = .ok (.ireturn, 1) := by decide +kernel
theorem d_Ha_isInside_4 : decode q_Ha_isInside.2.1 4 = .ok (.iload_n 1, 1) := by decide +kernel
theorem d_Ha_isInside_5 : decode q_Ha_isInside.2.1 5 = .ok (.aload_n 0, 1) := by decide +kernel
theorem d_Ha_isInside_6 : decode q_Ha_isInside.2.1 6 = .ok (.getfield 28, 3) := by decide +kernel
theorem fl_Ha_28 : rx_F "GlassRoom$Hall" 28 3 5 := ⟨(RX3, TX3, 9), rfl, by decide, (rx_s1 88 rfl rfl), rx_T3⟩
theorem d_Ha_isInside_9 : decode q_Ha_isInside.2.1 9 = .ok (.if_icmp .gt 19, 3) := by decide +kernel
theorem d_Ha_isInside_12 : decode q_Ha_isInside.2.1 12 = .ok (.iload_n 2, 1) := by decide +kernel
theorem d_Ha_isInside_13 : decode q_Ha_isInside.2.1 13 = .ok (.ifCond .lt 15, 3) := by decide +kernel
theorem d_Ha_isInside_16 : decode q_Ha_isInside.2.1 16 = .ok (.iload_n 2, 1) := by decide +kernel
theorem d_Ha_isInside_17 : decode q_Ha_isInside.2.1 17 = .ok (.aload_n 0, 1) := by decide +kernel
theorem d_Ha_isInside_18 : decode q_Ha_isInside.2.1 18 = .ok (.getfield 31, 3) := by decide +kernel
theorem fl_Ha_31 : rx_F "GlassRoom$Hall" 31 3 6 := ⟨(RX3, TX3, 9), rfl, by decide, (rx_s1 96 rfl rfl), rx_T3⟩
theorem d_Ha_isInside_21 : decode q_Ha_isInside.2.1 21 = .ok (.if_icmp .gt 7, 3) := by decide +kernel
theorem d_Ha_isInside_24 : decode q_Ha_isInside.2.1 24 = .ok (.iconst 1, 1) := by decide +kernel
theorem d_Ha_isInside_25 : decode q_Ha_isInside.2.1 25 = .ok (.goto 4, 3) := by decide +kernel
theorem d_Ha_brightAfter_0 : decode q_Ha_brightAfter.2.1 0 = .ok (.iload_n 1, 1) := by decide +kernel
theorem d_Ha_brightAfter_1 : decode q_Ha_brightAfter.2.1 1 = .ok (.ifCond .lt 21, 3) := by decide +kernel
theorem d_Ha_brightAfter_22 : decode q_Ha_brightAfter.2.1 22 = .ok (.iconst 0, 1) := by decide +kernel
theorem d_Ha_brightAfter_23 : decode q_Ha_brightAfter.2.1 23 = .ok (.ireturn, 1) := by decide +kernel
theorem d_Ha_brightAfter_4 : decode q_Ha_brightAfter.2.1 4 = .ok (.iload_n 1, 1) := by decide +kernel
theorem d_Ha_brightAfter_5 : decode q_Ha_brightAfter.2.1 5 = .ok (.aload_n 0, 1) := by decide +kernel
theorem d_Ha_brightAfter_6 : decode q_Ha_brightAfter.2.1 6 = .ok (.getfield 21, 3) := by decide +kernel
theorem fl_Ha_21 : rx_F "GlassRoom$Hall" 21 3 3 := ⟨(RX3, TX3, 9), rfl, by decide, (rx_s1 79 rfl rfl), rx_T3⟩
theorem d_Ha_brightAfter_9 : decode q_Ha_brightAfter.2.1 9 = .ok (.arraylength, 1) := by decide +kernel
theorem al_21 : Int32.ofNat 21 = (21 : Int32) := by decide
theorem d_Ha_brightAfter_10 : decode q_Ha_brightAfter.2.1 10 = .ok (.if_icmp .ge 12, 3) := by decide +kernel
theorem d_Ha_brightAfter_13 : decode q_Ha_brightAfter.2.1 13 = .ok (.aload_n 0, 1) := by decide +kernel
theorem d_Ha_brightAfter_14 : decode q_Ha_brightAfter.2.1 14 = .ok (.getfield 21, 3) := by decide +kernel
theorem d_Ha_brightAfter_17 : decode q_Ha_brightAfter.2.1 17 = .ok (.iload_n 1, 1) := by decide +kernel
theorem d_Ha_brightAfter_18 : decode q_Ha_brightAfter.2.1 18 = .ok (.iaload, 1) := by decide +kernel
theorem d_Ha_brightAfter_19 : decode q_Ha_brightAfter.2.1 19 = .ok (.goto 4, 3) := by decide +kernel
theorem d_Ha_spot_0 : decode q_Ha_spot.2.1 0 = .ok (.iload_n 0, 1) := by decide +kernel
theorem d_Ha_spot_1 : decode q_Ha_spot.2.1 1 = .ok (.iload_n 1, 1) := by decide +kernel
theorem d_Ha_spot_2 : decode q_Ha_spot.2.1 2 = .ok (.imul, 1) := by decide +kernel
theorem d_Ha_spot_3 : decode q_Ha_spot.2.1 3 = .ok (.iload_n 0, 1) := by decide +kernel
theorem d_Ha_spot_4 : decode q_Ha_spot.2.1 4 = .ok (.iconst 1, 1) := by decide +kernel
theorem d_Ha_spot_5 : decode q_Ha_spot.2.1 5 = .ok (.iand, 1) := by decide +kernel
theorem d_Ha_spot_6 : decode q_Ha_spot.2.1 6 = .ok (.ifCond .ne 7, 3) := by decide +kernel
theorem d_Ha_spot_9 : decode q_Ha_spot.2.1 9 = .ok (.iload_n 2, 1) := by decide +kernel
theorem d_Ha_spot_10 : decode q_Ha_spot.2.1 10 = .ok (.goto 6, 3) := by decide +kernel
theorem d_Ha_spot_16 : decode q_Ha_spot.2.1 16 = .ok (.iadd, 1) := by decide +kernel
theorem d_Ha_spot_17 : decode q_Ha_spot.2.1 17 = .ok (.ireturn, 1) := by decide +kernel
theorem d_Ha_spot_13 : decode q_Ha_spot.2.1 13 = .ok (.iload_n 1, 1) := by decide +kernel
theorem d_Ha_spot_14 : decode q_Ha_spot.2.1 14 = .ok (.iload_n 2, 1) := by decide +kernel
theorem d_Ha_spot_15 : decode q_Ha_spot.2.1 15 = .ok (.isub, 1) := by decide +kernel
theorem d_Ha_lowCell_0 : decode q_Ha_lowCell.2.1 0 = .ok (.iload_n 0, 1) := by decide +kernel
theorem d_Ha_lowCell_1 : decode q_Ha_lowCell.2.1 1 = .ok (.iconst 3, 1) := by decide +kernel
theorem ic_3 : Int32.ofInt (3) = (3 : Int32) := by decide
theorem d_Ha_lowCell_2 : decode q_Ha_lowCell.2.1 2 = .ok (.if_icmp .ne 8, 3) := by decide +kernel
theorem d_Ha_lowCell_5 : decode q_Ha_lowCell.2.1 5 = .ok (.bipush (-10), 2) := by decide +kernel
theorem bp_m10 : (Int8.ofInt (-10)).toInt32 = (-10 : Int32) := by decide
theorem d_Ha_lowCell_7 : decode q_Ha_lowCell.2.1 7 = .ok (.goto 13, 3) := by decide +kernel
theorem d_Ha_lowCell_20 : decode q_Ha_lowCell.2.1 20 = .ok (.ireturn, 1) := by decide +kernel
theorem d_Ha_lowCell_10 : decode q_Ha_lowCell.2.1 10 = .ok (.iload_n 0, 1) := by decide +kernel
theorem d_Ha_lowCell_11 : decode q_Ha_lowCell.2.1 11 = .ok (.iconst 1, 1) := by decide +kernel
theorem d_Ha_lowCell_12 : decode q_Ha_lowCell.2.1 12 = .ok (.if_icmp .ne 7, 3) := by decide +kernel
theorem d_Ha_lowCell_15 : decode q_Ha_lowCell.2.1 15 = .ok (.iconst (-1), 1) := by decide +kernel
theorem ic_m1 : Int32.ofInt (-1) = (-1 : Int32) := by decide
theorem d_Ha_lowCell_16 : decode q_Ha_lowCell.2.1 16 = .ok (.goto 4, 3) := by decide +kernel
theorem d_Ha_lowCell_19 : decode q_Ha_lowCell.2.1 19 = .ok (.iconst 0, 1) := by decide +kernel
theorem d_Ha_highCell_0 : decode q_Ha_highCell.2.1 0 = .ok (.iload_n 0, 1) := by decide +kernel
theorem d_Ha_highCell_1 : decode q_Ha_highCell.2.1 1 = .ok (.iconst 3, 1) := by decide +kernel
theorem d_Ha_highCell_2 : decode q_Ha_highCell.2.1 2 = .ok (.if_icmp .ne 8, 3) := by decide +kernel
theorem d_Ha_highCell_5 : decode q_Ha_highCell.2.1 5 = .ok (.bipush 10, 2) := by decide +kernel
theorem bp_10 : (Int8.ofInt (10)).toInt32 = (10 : Int32) := by decide
theorem d_Ha_highCell_7 : decode q_Ha_highCell.2.1 7 = .ok (.goto 13, 3) := by decide +kernel
theorem d_Ha_highCell_20 : decode q_Ha_highCell.2.1 20 = .ok (.ireturn, 1) := by decide +kernel
theorem d_Ha_highCell_10 : decode q_Ha_highCell.2.1 10 = .ok (.iload_n 0, 1) := by decide +kernel
theorem d_Ha_highCell_11 : decode q_Ha_highCell.2.1 11 = .ok (.iconst 2, 1) := by decide +kernel
theorem ic_2 : Int32.ofInt (2) = (2 : Int32) := by decide
theorem d_Ha_highCell_12 : decode q_Ha_highCell.2.1 12 = .ok (.if_icmp .ne 7, 3) := by decide +kernel
theorem d_Ha_highCell_15 : decode q_Ha_highCell.2.1 15 = .ok (.iconst 1, 1) := by decide +kernel
theorem d_Ha_highCell_16 : decode q_Ha_highCell.2.1 16 = .ok (.goto 4, 3) := by decide +kernel
theorem d_Ha_highCell_19 : decode q_Ha_highCell.2.1 19 = .ok (.iconst 0, 1) := by decide +kernel
theorem d_Ha_become_0 : decode q_Ha_become.2.1 0 = .ok (.aload_n 0, 1) := by decide +kernel
theorem d_Ha_become_1 : decode q_Ha_become.2.1 1 = .ok (.aload_n 1, 1) := by decide +kernel
theorem d_Ha_become_2 : decode q_Ha_become.2.1 2 = .ok (.getfield 24, 3) := by decide +kernel
theorem d_Ha_become_5 : decode q_Ha_become.2.1 5 = .ok (.putfield 24, 3) := by decide +kernel
theorem fp_Ha_24 : rx_FP "GlassRoom$Hall" 24 3 4 (.int) := ⟨(RX3, TX3, 9), tyX3, rfl, by decide, (rx_s1 80 rfl rfl), rx_T3, tyX3_ok, nmX3, rfl, rfl⟩
theorem d_Ha_become_8 : decode q_Ha_become.2.1 8 = .ok (.aload_n 0, 1) := by decide +kernel
theorem d_Ha_become_9 : decode q_Ha_become.2.1 9 = .ok (.aload_n 1, 1) := by decide +kernel
theorem d_Ha_become_10 : decode q_Ha_become.2.1 10 = .ok (.getfield 28, 3) := by decide +kernel
theorem d_Ha_become_13 : decode q_Ha_become.2.1 13 = .ok (.putfield 28, 3) := by decide +kernel
theorem fp_Ha_28 : rx_FP "GlassRoom$Hall" 28 3 5 (.int) := ⟨(RX3, TX3, 9), tyX3, rfl, by decide, (rx_s1 88 rfl rfl), rx_T3, tyX3_ok, nmX3, rfl, rfl⟩
theorem d_Ha_become_16 : decode q_Ha_become.2.1 16 = .ok (.aload_n 0, 1) := by decide +kernel
theorem d_Ha_become_17 : decode q_Ha_become.2.1 17 = .ok (.aload_n 1, 1) := by decide +kernel
theorem d_Ha_become_18 : decode q_Ha_become.2.1 18 = .ok (.getfield 31, 3) := by decide +kernel
theorem d_Ha_become_21 : decode q_Ha_become.2.1 21 = .ok (.putfield 31, 3) := by decide +kernel
theorem fp_Ha_31 : rx_FP "GlassRoom$Hall" 31 3 6 (.int) := ⟨(RX3, TX3, 9), tyX3, rfl, by decide, (rx_s1 96 rfl rfl), rx_T3, tyX3_ok, nmX3, rfl, rfl⟩
theorem d_Ha_become_24 : decode q_Ha_become.2.1 24 = .ok (.aload_n 0, 1) := by decide +kernel
theorem d_Ha_become_25 : decode q_Ha_become.2.1 25 = .ok (.aload_n 1, 1) := by decide +kernel
theorem d_Ha_become_26 : decode q_Ha_become.2.1 26 = .ok (.getfield 34, 3) := by decide +kernel
theorem fl_Ha_34 : rx_F "GlassRoom$Hall" 34 3 7 := ⟨(RX3, TX3, 9), rfl, by decide, (rx_s1 104 rfl rfl), rx_T3⟩
theorem d_Ha_become_29 : decode q_Ha_become.2.1 29 = .ok (.putfield 34, 3) := by decide +kernel
theorem fp_Ha_34 : rx_FP "GlassRoom$Hall" 34 3 7 (.int) := ⟨(RX3, TX3, 9), tyX3, rfl, by decide, (rx_s1 104 rfl rfl), rx_T3, tyX3_ok, nmX3, rfl, rfl⟩
theorem d_Ha_become_32 : decode q_Ha_become.2.1 32 = .ok (.aload_n 0, 1) := by decide +kernel
theorem d_Ha_become_33 : decode q_Ha_become.2.1 33 = .ok (.aload_n 1, 1) := by decide +kernel
theorem d_Ha_become_34 : decode q_Ha_become.2.1 34 = .ok (.getfield 37, 3) := by decide +kernel
theorem fl_Ha_37 : rx_F "GlassRoom$Hall" 37 3 8 := ⟨(RX3, TX3, 9), rfl, by decide, (rx_s1 107 rfl rfl), rx_T3⟩
theorem d_Ha_become_37 : decode q_Ha_become.2.1 37 = .ok (.putfield 37, 3) := by decide +kernel
theorem fp_Ha_37 : rx_FP "GlassRoom$Hall" 37 3 8 (.int) := ⟨(RX3, TX3, 9), tyX3, rfl, by decide, (rx_s1 107 rfl rfl), rx_T3, tyX3_ok, nmX3, rfl, rfl⟩
theorem d_Ha_become_40 : decode q_Ha_become.2.1 40 = .ok (.iconst 0, 1) := by decide +kernel
theorem d_Ha_become_41 : decode q_Ha_become.2.1 41 = .ok (.istore_n 2, 1) := by decide +kernel
theorem d_Ha_become_42 : decode q_Ha_become.2.1 42 = .ok (.iload_n 2, 1) := by decide +kernel
theorem d_Ha_become_43 : decode q_Ha_become.2.1 43 = .ok (.bipush 6, 2) := by decide +kernel
theorem bp_6 : (Int8.ofInt (6)).toInt32 = (6 : Int32) := by decide
theorem d_Ha_become_45 : decode q_Ha_become.2.1 45 = .ok (.if_icmp .ge 45, 3) := by decide +kernel
theorem d_Ha_become_90 : decode q_Ha_become.2.1 90 = .ok (.ldc 40, 2) := by decide +kernel
theorem ck_Ha_40 : Cond.constant "GlassRoom$Hall" 40 (1000000) ∈ rx_gw := (rx_s3 119 rfl rfl)
theorem d_Ha_become_92 : decode q_Ha_become.2.1 92 = .ok (.istore_n 2, 1) := by decide +kernel
theorem d_Ha_become_93 : decode q_Ha_become.2.1 93 = .ok (.iconst 0, 1) := by decide +kernel
theorem d_Ha_become_94 : decode q_Ha_become.2.1 94 = .ok (.istore_n 3, 1) := by decide +kernel
theorem d_Ha_become_48 : decode q_Ha_become.2.1 48 = .ok (.aload_n 0, 1) := by decide +kernel
theorem d_Ha_become_49 : decode q_Ha_become.2.1 49 = .ok (.getfield 9, 3) := by decide +kernel
theorem fl_Ha_9 : rx_F "GlassRoom$Hall" 9 3 0 := ⟨(RX3, TX3, 9), rfl, by decide, (rx_s1 60 rfl rfl), rx_T3⟩
theorem d_Ha_become_52 : decode q_Ha_become.2.1 52 = .ok (.iload_n 2, 1) := by decide +kernel
theorem d_Ha_become_53 : decode q_Ha_become.2.1 53 = .ok (.aload_n 1, 1) := by decide +kernel
theorem d_Ha_become_54 : decode q_Ha_become.2.1 54 = .ok (.getfield 9, 3) := by decide +kernel
theorem d_Ha_become_57 : decode q_Ha_become.2.1 57 = .ok (.iload_n 2, 1) := by decide +kernel
theorem d_Ha_become_58 : decode q_Ha_become.2.1 58 = .ok (.iaload, 1) := by decide +kernel
theorem d_Ha_become_59 : decode q_Ha_become.2.1 59 = .ok (.iastore, 1) := by decide +kernel
theorem d_Ha_become_60 : decode q_Ha_become.2.1 60 = .ok (.aload_n 0, 1) := by decide +kernel
theorem d_Ha_become_61 : decode q_Ha_become.2.1 61 = .ok (.getfield 15, 3) := by decide +kernel
theorem fl_Ha_15 : rx_F "GlassRoom$Hall" 15 3 1 := ⟨(RX3, TX3, 9), rfl, by decide, (rx_s1 68 rfl rfl), rx_T3⟩
theorem d_Ha_become_64 : decode q_Ha_become.2.1 64 = .ok (.iload_n 2, 1) := by decide +kernel
theorem d_Ha_become_65 : decode q_Ha_become.2.1 65 = .ok (.aload_n 1, 1) := by decide +kernel
theorem d_Ha_become_66 : decode q_Ha_become.2.1 66 = .ok (.getfield 15, 3) := by decide +kernel
theorem d_Ha_become_69 : decode q_Ha_become.2.1 69 = .ok (.iload_n 2, 1) := by decide +kernel
theorem d_Ha_become_70 : decode q_Ha_become.2.1 70 = .ok (.iaload, 1) := by decide +kernel
theorem d_Ha_become_71 : decode q_Ha_become.2.1 71 = .ok (.iastore, 1) := by decide +kernel
theorem d_Ha_become_72 : decode q_Ha_become.2.1 72 = .ok (.aload_n 0, 1) := by decide +kernel
theorem d_Ha_become_73 : decode q_Ha_become.2.1 73 = .ok (.getfield 18, 3) := by decide +kernel
theorem fl_Ha_18 : rx_F "GlassRoom$Hall" 18 3 2 := ⟨(RX3, TX3, 9), rfl, by decide, (rx_s1 76 rfl rfl), rx_T3⟩
theorem d_Ha_become_76 : decode q_Ha_become.2.1 76 = .ok (.iload_n 2, 1) := by decide +kernel
theorem d_Ha_become_77 : decode q_Ha_become.2.1 77 = .ok (.aload_n 1, 1) := by decide +kernel
theorem d_Ha_become_78 : decode q_Ha_become.2.1 78 = .ok (.getfield 18, 3) := by decide +kernel
theorem d_Ha_become_81 : decode q_Ha_become.2.1 81 = .ok (.iload_n 2, 1) := by decide +kernel
theorem d_Ha_become_82 : decode q_Ha_become.2.1 82 = .ok (.iaload, 1) := by decide +kernel
theorem d_Ha_become_83 : decode q_Ha_become.2.1 83 = .ok (.iastore, 1) := by decide +kernel
theorem d_Ha_become_84 : decode q_Ha_become.2.1 84 = .ok (.iinc 2 1, 3) := by decide +kernel
theorem d_Ha_become_87 : decode q_Ha_become.2.1 87 = .ok (.goto (-45), 3) := by decide +kernel
theorem d_Ha_become_95 : decode q_Ha_become.2.1 95 = .ok (.iload_n 3, 1) := by decide +kernel
theorem d_Ha_become_96 : decode q_Ha_become.2.1 96 = .ok (.aload_n 0, 1) := by decide +kernel
theorem d_Ha_become_97 : decode q_Ha_become.2.1 97 = .ok (.getfield 21, 3) := by decide +kernel
theorem d_Ha_become_100 : decode q_Ha_become.2.1 100 = .ok (.arraylength, 1) := by decide +kernel
theorem d_Ha_become_101 : decode q_Ha_become.2.1 101 = .ok (.if_icmp .ge 29, 3) := by decide +kernel
theorem d_Ha_become_130 : decode q_Ha_become.2.1 130 = .ok (.return_, 1) := by decide +kernel
theorem d_Ha_become_104 : decode q_Ha_become.2.1 104 = .ok (.aload_n 0, 1) := by decide +kernel
theorem d_Ha_become_105 : decode q_Ha_become.2.1 105 = .ok (.getfield 21, 3) := by decide +kernel
theorem d_Ha_become_108 : decode q_Ha_become.2.1 108 = .ok (.iload_n 3, 1) := by decide +kernel
theorem d_Ha_become_109 : decode q_Ha_become.2.1 109 = .ok (.iload_n 2, 1) := by decide +kernel
theorem d_Ha_become_110 : decode q_Ha_become.2.1 110 = .ok (.iastore, 1) := by decide +kernel
theorem d_Ha_become_111 : decode q_Ha_become.2.1 111 = .ok (.iload_n 2, 1) := by decide +kernel
theorem d_Ha_become_112 : decode q_Ha_become.2.1 112 = .ok (.bipush 100, 2) := by decide +kernel
theorem bp_100 : (Int8.ofInt (100)).toInt32 = (100 : Int32) := by decide
theorem d_Ha_become_114 : decode q_Ha_become.2.1 114 = .ok (.aload_n 0, 1) := by decide +kernel
theorem d_Ha_become_115 : decode q_Ha_become.2.1 115 = .ok (.getfield 37, 3) := by decide +kernel
theorem d_Ha_become_118 : decode q_Ha_become.2.1 118 = .ok (.isub, 1) := by decide +kernel
theorem d_Ha_become_119 : decode q_Ha_become.2.1 119 = .ok (.imul, 1) := by decide +kernel
theorem d_Ha_become_120 : decode q_Ha_become.2.1 120 = .ok (.bipush 100, 2) := by decide +kernel
theorem d_Ha_become_122 : decode q_Ha_become.2.1 122 = .ok (.idiv, 1) := by decide +kernel
theorem d_Ha_become_123 : decode q_Ha_become.2.1 123 = .ok (.istore_n 2, 1) := by decide +kernel
theorem d_Ha_become_124 : decode q_Ha_become.2.1 124 = .ok (.iinc 3 1, 3) := by decide +kernel
theorem d_Ha_become_127 : decode q_Ha_become.2.1 127 = .ok (.goto (-32), 3) := by decide +kernel
theorem d_Ha_wander_0 : decode q_Ha_wander.2.1 0 = .ok (.aload_n 0, 1) := by decide +kernel
theorem d_Ha_wander_1 : decode q_Ha_wander.2.1 1 = .ok (.getfield 9, 3) := by decide +kernel
theorem d_Ha_wander_4 : decode q_Ha_wander.2.1 4 = .ok (.iload_n 1, 1) := by decide +kernel
theorem d_Ha_wander_5 : decode q_Ha_wander.2.1 5 = .ok (.iaload, 1) := by decide +kernel
theorem d_Ha_wander_6 : decode q_Ha_wander.2.1 6 = .ok (.iload_n 2, 1) := by decide +kernel
theorem d_Ha_wander_7 : decode q_Ha_wander.2.1 7 = .ok (.iconst 1, 1) := by decide +kernel
theorem d_Ha_wander_8 : decode q_Ha_wander.2.1 8 = .ok (.if_icmp .ne 7, 3) := by decide +kernel
theorem d_Ha_wander_11 : decode q_Ha_wander.2.1 11 = .ok (.iconst 1, 1) := by decide +kernel
theorem d_Ha_wander_12 : decode q_Ha_wander.2.1 12 = .ok (.goto 13, 3) := by decide +kernel
theorem d_Ha_wander_25 : decode q_Ha_wander.2.1 25 = .ok (.iadd, 1) := by decide +kernel
theorem d_Ha_wander_26 : decode q_Ha_wander.2.1 26 = .ok (.istore_n 3, 1) := by decide +kernel
theorem d_Ha_wander_27 : decode q_Ha_wander.2.1 27 = .ok (.aload_n 0, 1) := by decide +kernel
theorem d_Ha_wander_28 : decode q_Ha_wander.2.1 28 = .ok (.getfield 15, 3) := by decide +kernel
theorem d_Ha_wander_31 : decode q_Ha_wander.2.1 31 = .ok (.iload_n 1, 1) := by decide +kernel
theorem d_Ha_wander_32 : decode q_Ha_wander.2.1 32 = .ok (.iaload, 1) := by decide +kernel
theorem d_Ha_wander_33 : decode q_Ha_wander.2.1 33 = .ok (.iload_n 2, 1) := by decide +kernel
theorem d_Ha_wander_34 : decode q_Ha_wander.2.1 34 = .ok (.iconst 2, 1) := by decide +kernel
theorem d_Ha_wander_35 : decode q_Ha_wander.2.1 35 = .ok (.if_icmp .ne 7, 3) := by decide +kernel
theorem d_Ha_wander_38 : decode q_Ha_wander.2.1 38 = .ok (.iconst 1, 1) := by decide +kernel
theorem d_Ha_wander_39 : decode q_Ha_wander.2.1 39 = .ok (.goto 13, 3) := by decide +kernel
theorem d_Ha_wander_52 : decode q_Ha_wander.2.1 52 = .ok (.iadd, 1) := by decide +kernel
theorem d_Ha_wander_53 : decode q_Ha_wander.2.1 53 = .ok (.istore 4, 2) := by decide +kernel
theorem d_Ha_wander_55 : decode q_Ha_wander.2.1 55 = .ok (.aload_n 0, 1) := by decide +kernel
theorem d_Ha_wander_56 : decode q_Ha_wander.2.1 56 = .ok (.iload_n 3, 1) := by decide +kernel
theorem d_Ha_wander_57 : decode q_Ha_wander.2.1 57 = .ok (.iload 4, 2) := by decide +kernel
theorem d_Ha_wander_59 : decode q_Ha_wander.2.1 59 = .ok (.invokevirtual 41, 3) := by decide +kernel
theorem ml_Ha_41 : rx_CV "GlassRoom$Hall" 41 q_Ha_isInside 2 := ⟨⟨(rx_s3 157 rfl rfl), (rx_s3 54 rfl rfl), (rx_s3 55 rfl rfl)⟩, ⟨(rx_s1 3 rfl rfl), q_Ha_isInside_k, ⟨by decide, by decide, by decide +kernel⟩, by decide⟩⟩
theorem d_Ha_wander_62 : decode q_Ha_wander.2.1 62 = .ok (.ifCond .eq 18, 3) := by decide +kernel
theorem d_Ha_wander_80 : decode q_Ha_wander.2.1 80 = .ok (.return_, 1) := by decide +kernel
theorem d_Ha_wander_65 : decode q_Ha_wander.2.1 65 = .ok (.aload_n 0, 1) := by decide +kernel
theorem d_Ha_wander_66 : decode q_Ha_wander.2.1 66 = .ok (.getfield 9, 3) := by decide +kernel
theorem d_Ha_wander_69 : decode q_Ha_wander.2.1 69 = .ok (.iload_n 1, 1) := by decide +kernel
theorem d_Ha_wander_70 : decode q_Ha_wander.2.1 70 = .ok (.iload_n 3, 1) := by decide +kernel
theorem d_Ha_wander_71 : decode q_Ha_wander.2.1 71 = .ok (.iastore, 1) := by decide +kernel
theorem d_Ha_wander_72 : decode q_Ha_wander.2.1 72 = .ok (.aload_n 0, 1) := by decide +kernel
theorem d_Ha_wander_73 : decode q_Ha_wander.2.1 73 = .ok (.getfield 15, 3) := by decide +kernel
theorem d_Ha_wander_76 : decode q_Ha_wander.2.1 76 = .ok (.iload_n 1, 1) := by decide +kernel
theorem d_Ha_wander_77 : decode q_Ha_wander.2.1 77 = .ok (.iload 4, 2) := by decide +kernel
theorem d_Ha_wander_79 : decode q_Ha_wander.2.1 79 = .ok (.iastore, 1) := by decide +kernel
theorem d_Ha_wander_42 : decode q_Ha_wander.2.1 42 = .ok (.iload_n 2, 1) := by decide +kernel
theorem d_Ha_wander_43 : decode q_Ha_wander.2.1 43 = .ok (.iconst 4, 1) := by decide +kernel
theorem ic_4 : Int32.ofInt (4) = (4 : Int32) := by decide
theorem d_Ha_wander_44 : decode q_Ha_wander.2.1 44 = .ok (.if_icmp .ne 7, 3) := by decide +kernel
theorem d_Ha_wander_47 : decode q_Ha_wander.2.1 47 = .ok (.iconst (-1), 1) := by decide +kernel
theorem d_Ha_wander_48 : decode q_Ha_wander.2.1 48 = .ok (.goto 4, 3) := by decide +kernel
theorem d_Ha_wander_51 : decode q_Ha_wander.2.1 51 = .ok (.iconst 0, 1) := by decide +kernel
theorem d_Ha_wander_15 : decode q_Ha_wander.2.1 15 = .ok (.iload_n 2, 1) := by decide +kernel
theorem d_Ha_wander_16 : decode q_Ha_wander.2.1 16 = .ok (.iconst 3, 1) := by decide +kernel
theorem d_Ha_wander_17 : decode q_Ha_wander.2.1 17 = .ok (.if_icmp .ne 7, 3) := by decide +kernel
theorem d_Ha_wander_20 : decode q_Ha_wander.2.1 20 = .ok (.iconst (-1), 1) := by decide +kernel
theorem d_Ha_wander_21 : decode q_Ha_wander.2.1 21 = .ok (.goto 4, 3) := by decide +kernel
theorem d_Ha_wander_24 : decode q_Ha_wander.2.1 24 = .ok (.iconst 0, 1) := by decide +kernel
theorem d_Ha_farFrom_0 : decode q_Ha_farFrom.2.1 0 = .ok (.iload_n 3, 1) := by decide +kernel
theorem d_Ha_farFrom_1 : decode q_Ha_farFrom.2.1 1 = .ok (.aload_n 0, 1) := by decide +kernel
theorem d_Ha_farFrom_2 : decode q_Ha_farFrom.2.1 2 = .ok (.getfield 28, 3) := by decide +kernel
theorem d_Ha_farFrom_5 : decode q_Ha_farFrom.2.1 5 = .ok (.aload_n 0, 1) := by decide +kernel
theorem d_Ha_farFrom_6 : decode q_Ha_farFrom.2.1 6 = .ok (.getfield 9, 3) := by decide +kernel
theorem d_Ha_farFrom_9 : decode q_Ha_farFrom.2.1 9 = .ok (.iload_n 2, 1) := by decide +kernel
theorem d_Ha_farFrom_10 : decode q_Ha_farFrom.2.1 10 = .ok (.iaload, 1) := by decide +kernel
theorem d_Ha_farFrom_11 : decode q_Ha_farFrom.2.1 11 = .ok (.invokestatic 45, 3) := by decide +kernel
theorem ml_Ha_45 : rx_CS "GlassRoom$Hall" 45 q_Ha_spot 3 := ⟨⟨(rx_s3 224 rfl rfl), (rx_s3 180 rfl rfl)⟩, ⟨(rx_s1 3 rfl rfl), q_Ha_spot_k, ⟨by decide, by decide, by decide +kernel⟩, by decide⟩⟩
theorem d_Ha_farFrom_14 : decode q_Ha_farFrom.2.1 14 = .ok (.aload_n 0, 1) := by decide +kernel
theorem d_Ha_farFrom_15 : decode q_Ha_farFrom.2.1 15 = .ok (.getfield 9, 3) := by decide +kernel
theorem d_Ha_farFrom_18 : decode q_Ha_farFrom.2.1 18 = .ok (.iload_n 1, 1) := by decide +kernel
theorem d_Ha_farFrom_19 : decode q_Ha_farFrom.2.1 19 = .ok (.iaload, 1) := by decide +kernel
theorem d_Ha_farFrom_20 : decode q_Ha_farFrom.2.1 20 = .ok (.isub, 1) := by decide +kernel
theorem d_Ha_farFrom_21 : decode q_Ha_farFrom.2.1 21 = .ok (.istore 5, 2) := by decide +kernel
theorem d_Ha_farFrom_23 : decode q_Ha_farFrom.2.1 23 = .ok (.iload 4, 2) := by decide +kernel
theorem d_Ha_farFrom_25 : decode q_Ha_farFrom.2.1 25 = .ok (.aload_n 0, 1) := by decide +kernel
theorem d_Ha_farFrom_26 : decode q_Ha_farFrom.2.1 26 = .ok (.getfield 31, 3) := by decide +kernel
theorem d_Ha_farFrom_29 : decode q_Ha_farFrom.2.1 29 = .ok (.aload_n 0, 1) := by decide +kernel
theorem d_Ha_farFrom_30 : decode q_Ha_farFrom.2.1 30 = .ok (.getfield 15, 3) := by decide +kernel
theorem d_Ha_farFrom_33 : decode q_Ha_farFrom.2.1 33 = .ok (.iload_n 2, 1) := by decide +kernel
theorem d_Ha_farFrom_34 : decode q_Ha_farFrom.2.1 34 = .ok (.iaload, 1) := by decide +kernel
theorem d_Ha_farFrom_35 : decode q_Ha_farFrom.2.1 35 = .ok (.invokestatic 45, 3) := by decide +kernel
theorem d_Ha_farFrom_38 : decode q_Ha_farFrom.2.1 38 = .ok (.aload_n 0, 1) := by decide +kernel
theorem d_Ha_farFrom_39 : decode q_Ha_farFrom.2.1 39 = .ok (.getfield 15, 3) := by decide +kernel
theorem d_Ha_farFrom_42 : decode q_Ha_farFrom.2.1 42 = .ok (.iload_n 1, 1) := by decide +kernel
theorem d_Ha_farFrom_43 : decode q_Ha_farFrom.2.1 43 = .ok (.iaload, 1) := by decide +kernel
theorem d_Ha_farFrom_44 : decode q_Ha_farFrom.2.1 44 = .ok (.isub, 1) := by decide +kernel
theorem d_Ha_farFrom_45 : decode q_Ha_farFrom.2.1 45 = .ok (.istore 6, 2) := by decide +kernel
theorem d_Ha_farFrom_47 : decode q_Ha_farFrom.2.1 47 = .ok (.iload 5, 2) := by decide +kernel
theorem d_Ha_farFrom_49 : decode q_Ha_farFrom.2.1 49 = .ok (.iload 5, 2) := by decide +kernel
theorem d_Ha_farFrom_51 : decode q_Ha_farFrom.2.1 51 = .ok (.imul, 1) := by decide +kernel
theorem d_Ha_farFrom_52 : decode q_Ha_farFrom.2.1 52 = .ok (.iload 6, 2) := by decide +kernel
theorem d_Ha_farFrom_54 : decode q_Ha_farFrom.2.1 54 = .ok (.iload 6, 2) := by decide +kernel
theorem d_Ha_farFrom_56 : decode q_Ha_farFrom.2.1 56 = .ok (.imul, 1) := by decide +kernel
theorem d_Ha_farFrom_57 : decode q_Ha_farFrom.2.1 57 = .ok (.iadd, 1) := by decide +kernel
theorem d_Ha_farFrom_58 : decode q_Ha_farFrom.2.1 58 = .ok (.ireturn, 1) := by decide +kernel
theorem d_Ha_writeTo_0 : decode q_Ha_writeTo.2.1 0 = .ok (.iload_n 2, 1) := by decide +kernel
theorem d_Ha_writeTo_1 : decode q_Ha_writeTo.2.1 1 = .ok (.ifCond .lt 12, 3) := by decide +kernel
theorem d_Ha_writeTo_13 : decode q_Ha_writeTo.2.1 13 = .ok (.return_, 1) := by decide +kernel
theorem d_Ha_writeTo_4 : decode q_Ha_writeTo.2.1 4 = .ok (.iload_n 2, 1) := by decide +kernel
theorem d_Ha_writeTo_5 : decode q_Ha_writeTo.2.1 5 = .ok (.bipush 13, 2) := by decide +kernel
theorem bp_13 : (Int8.ofInt (13)).toInt32 = (13 : Int32) := by decide
theorem d_Ha_writeTo_7 : decode q_Ha_writeTo.2.1 7 = .ok (.iadd, 1) := by decide +kernel
theorem d_Ha_writeTo_8 : decode q_Ha_writeTo.2.1 8 = .ok (.aload_n 1, 1) := by decide +kernel
theorem d_Ha_writeTo_9 : decode q_Ha_writeTo.2.1 9 = .ok (.arraylength, 1) := by decide +kernel
theorem al_13 : Int32.ofNat 13 = (13 : Int32) := by decide
theorem d_Ha_writeTo_10 : decode q_Ha_writeTo.2.1 10 = .ok (.if_icmp .le 4, 3) := by decide +kernel
theorem d_Ha_writeTo_14 : decode q_Ha_writeTo.2.1 14 = .ok (.iconst 0, 1) := by decide +kernel
theorem d_Ha_writeTo_15 : decode q_Ha_writeTo.2.1 15 = .ok (.istore_n 3, 1) := by decide +kernel
theorem d_Ha_writeTo_16 : decode q_Ha_writeTo.2.1 16 = .ok (.iload_n 3, 1) := by decide +kernel
theorem d_Ha_writeTo_17 : decode q_Ha_writeTo.2.1 17 = .ok (.bipush 6, 2) := by decide +kernel
theorem d_Ha_writeTo_19 : decode q_Ha_writeTo.2.1 19 = .ok (.if_icmp .ge 37, 3) := by decide +kernel
theorem d_Ha_writeTo_56 : decode q_Ha_writeTo.2.1 56 = .ok (.aload_n 1, 1) := by decide +kernel
theorem d_Ha_writeTo_57 : decode q_Ha_writeTo.2.1 57 = .ok (.iload_n 2, 1) := by decide +kernel
theorem d_Ha_writeTo_58 : decode q_Ha_writeTo.2.1 58 = .ok (.bipush 13, 2) := by decide +kernel
theorem d_Ha_writeTo_60 : decode q_Ha_writeTo.2.1 60 = .ok (.iadd, 1) := by decide +kernel
theorem d_Ha_writeTo_61 : decode q_Ha_writeTo.2.1 61 = .ok (.iconst 1, 1) := by decide +kernel
theorem d_Ha_writeTo_62 : decode q_Ha_writeTo.2.1 62 = .ok (.isub, 1) := by decide +kernel
theorem d_Ha_writeTo_63 : decode q_Ha_writeTo.2.1 63 = .ok (.aload_n 0, 1) := by decide +kernel
theorem d_Ha_writeTo_64 : decode q_Ha_writeTo.2.1 64 = .ok (.getfield 34, 3) := by decide +kernel
theorem d_Ha_writeTo_67 : decode q_Ha_writeTo.2.1 67 = .ok (.iastore, 1) := by decide +kernel
theorem d_Ha_writeTo_68 : decode q_Ha_writeTo.2.1 68 = .ok (.return_, 1) := by decide +kernel
theorem d_Ha_writeTo_22 : decode q_Ha_writeTo.2.1 22 = .ok (.aload_n 1, 1) := by decide +kernel
theorem d_Ha_writeTo_23 : decode q_Ha_writeTo.2.1 23 = .ok (.iload_n 2, 1) := by decide +kernel
theorem d_Ha_writeTo_24 : decode q_Ha_writeTo.2.1 24 = .ok (.iconst 2, 1) := by decide +kernel
theorem d_Ha_writeTo_25 : decode q_Ha_writeTo.2.1 25 = .ok (.iload_n 3, 1) := by decide +kernel
theorem d_Ha_writeTo_26 : decode q_Ha_writeTo.2.1 26 = .ok (.imul, 1) := by decide +kernel
theorem d_Ha_writeTo_27 : decode q_Ha_writeTo.2.1 27 = .ok (.iadd, 1) := by decide +kernel
theorem d_Ha_writeTo_28 : decode q_Ha_writeTo.2.1 28 = .ok (.aload_n 0, 1) := by decide +kernel
theorem d_Ha_writeTo_29 : decode q_Ha_writeTo.2.1 29 = .ok (.getfield 9, 3) := by decide +kernel
theorem d_Ha_writeTo_32 : decode q_Ha_writeTo.2.1 32 = .ok (.iload_n 3, 1) := by decide +kernel
theorem d_Ha_writeTo_33 : decode q_Ha_writeTo.2.1 33 = .ok (.iaload, 1) := by decide +kernel
theorem d_Ha_writeTo_34 : decode q_Ha_writeTo.2.1 34 = .ok (.iastore, 1) := by decide +kernel
theorem d_Ha_writeTo_35 : decode q_Ha_writeTo.2.1 35 = .ok (.aload_n 1, 1) := by decide +kernel
theorem d_Ha_writeTo_36 : decode q_Ha_writeTo.2.1 36 = .ok (.iload_n 2, 1) := by decide +kernel
theorem d_Ha_writeTo_37 : decode q_Ha_writeTo.2.1 37 = .ok (.iconst 2, 1) := by decide +kernel
theorem d_Ha_writeTo_38 : decode q_Ha_writeTo.2.1 38 = .ok (.iload_n 3, 1) := by decide +kernel
theorem d_Ha_writeTo_39 : decode q_Ha_writeTo.2.1 39 = .ok (.imul, 1) := by decide +kernel
theorem d_Ha_writeTo_40 : decode q_Ha_writeTo.2.1 40 = .ok (.iadd, 1) := by decide +kernel
theorem d_Ha_writeTo_41 : decode q_Ha_writeTo.2.1 41 = .ok (.iconst 1, 1) := by decide +kernel
theorem d_Ha_writeTo_42 : decode q_Ha_writeTo.2.1 42 = .ok (.iadd, 1) := by decide +kernel
theorem d_Ha_writeTo_43 : decode q_Ha_writeTo.2.1 43 = .ok (.aload_n 0, 1) := by decide +kernel
theorem d_Ha_writeTo_44 : decode q_Ha_writeTo.2.1 44 = .ok (.getfield 15, 3) := by decide +kernel
theorem d_Ha_writeTo_47 : decode q_Ha_writeTo.2.1 47 = .ok (.iload_n 3, 1) := by decide +kernel
theorem d_Ha_writeTo_48 : decode q_Ha_writeTo.2.1 48 = .ok (.iaload, 1) := by decide +kernel
theorem d_Ha_writeTo_49 : decode q_Ha_writeTo.2.1 49 = .ok (.iastore, 1) := by decide +kernel
theorem d_Ha_writeTo_50 : decode q_Ha_writeTo.2.1 50 = .ok (.iinc 3 1, 3) := by decide +kernel
theorem d_Ha_writeTo_53 : decode q_Ha_writeTo.2.1 53 = .ok (.goto (-37), 3) := by decide +kernel
theorem d_Ha_readFrom_0 : decode q_Ha_readFrom.2.1 0 = .ok (.iload_n 2, 1) := by decide +kernel
theorem d_Ha_readFrom_1 : decode q_Ha_readFrom.2.1 1 = .ok (.ifCond .lt 12, 3) := by decide +kernel
theorem d_Ha_readFrom_13 : decode q_Ha_readFrom.2.1 13 = .ok (.return_, 1) := by decide +kernel
theorem d_Ha_readFrom_4 : decode q_Ha_readFrom.2.1 4 = .ok (.iload_n 2, 1) := by decide +kernel
theorem d_Ha_readFrom_5 : decode q_Ha_readFrom.2.1 5 = .ok (.bipush 13, 2) := by decide +kernel
theorem d_Ha_readFrom_7 : decode q_Ha_readFrom.2.1 7 = .ok (.iadd, 1) := by decide +kernel
theorem d_Ha_readFrom_8 : decode q_Ha_readFrom.2.1 8 = .ok (.aload_n 1, 1) := by decide +kernel
theorem d_Ha_readFrom_9 : decode q_Ha_readFrom.2.1 9 = .ok (.arraylength, 1) := by decide +kernel
theorem d_Ha_readFrom_10 : decode q_Ha_readFrom.2.1 10 = .ok (.if_icmp .le 4, 3) := by decide +kernel
theorem d_Ha_readFrom_14 : decode q_Ha_readFrom.2.1 14 = .ok (.iconst 0, 1) := by decide +kernel
theorem d_Ha_readFrom_15 : decode q_Ha_readFrom.2.1 15 = .ok (.istore_n 3, 1) := by decide +kernel
theorem d_Ha_readFrom_16 : decode q_Ha_readFrom.2.1 16 = .ok (.iload_n 3, 1) := by decide +kernel
theorem d_Ha_readFrom_17 : decode q_Ha_readFrom.2.1 17 = .ok (.bipush 6, 2) := by decide +kernel
theorem d_Ha_readFrom_19 : decode q_Ha_readFrom.2.1 19 = .ok (.if_icmp .ge 37, 3) := by decide +kernel
theorem d_Ha_readFrom_56 : decode q_Ha_readFrom.2.1 56 = .ok (.aload_n 0, 1) := by decide +kernel
theorem d_Ha_readFrom_57 : decode q_Ha_readFrom.2.1 57 = .ok (.aload_n 1, 1) := by decide +kernel
theorem d_Ha_readFrom_58 : decode q_Ha_readFrom.2.1 58 = .ok (.iload_n 2, 1) := by decide +kernel
theorem d_Ha_readFrom_59 : decode q_Ha_readFrom.2.1 59 = .ok (.bipush 13, 2) := by decide +kernel
theorem d_Ha_readFrom_61 : decode q_Ha_readFrom.2.1 61 = .ok (.iadd, 1) := by decide +kernel
theorem d_Ha_readFrom_62 : decode q_Ha_readFrom.2.1 62 = .ok (.iconst 1, 1) := by decide +kernel
theorem d_Ha_readFrom_63 : decode q_Ha_readFrom.2.1 63 = .ok (.isub, 1) := by decide +kernel
theorem d_Ha_readFrom_64 : decode q_Ha_readFrom.2.1 64 = .ok (.iaload, 1) := by decide +kernel
theorem d_Ha_readFrom_65 : decode q_Ha_readFrom.2.1 65 = .ok (.putfield 34, 3) := by decide +kernel
theorem d_Ha_readFrom_68 : decode q_Ha_readFrom.2.1 68 = .ok (.return_, 1) := by decide +kernel
theorem d_Ha_readFrom_22 : decode q_Ha_readFrom.2.1 22 = .ok (.aload_n 0, 1) := by decide +kernel
theorem d_Ha_readFrom_23 : decode q_Ha_readFrom.2.1 23 = .ok (.getfield 9, 3) := by decide +kernel
theorem d_Ha_readFrom_26 : decode q_Ha_readFrom.2.1 26 = .ok (.iload_n 3, 1) := by decide +kernel
theorem d_Ha_readFrom_27 : decode q_Ha_readFrom.2.1 27 = .ok (.aload_n 1, 1) := by decide +kernel
theorem d_Ha_readFrom_28 : decode q_Ha_readFrom.2.1 28 = .ok (.iload_n 2, 1) := by decide +kernel
theorem d_Ha_readFrom_29 : decode q_Ha_readFrom.2.1 29 = .ok (.iconst 2, 1) := by decide +kernel
theorem d_Ha_readFrom_30 : decode q_Ha_readFrom.2.1 30 = .ok (.iload_n 3, 1) := by decide +kernel
theorem d_Ha_readFrom_31 : decode q_Ha_readFrom.2.1 31 = .ok (.imul, 1) := by decide +kernel
theorem d_Ha_readFrom_32 : decode q_Ha_readFrom.2.1 32 = .ok (.iadd, 1) := by decide +kernel
theorem d_Ha_readFrom_33 : decode q_Ha_readFrom.2.1 33 = .ok (.iaload, 1) := by decide +kernel
theorem d_Ha_readFrom_34 : decode q_Ha_readFrom.2.1 34 = .ok (.iastore, 1) := by decide +kernel
theorem d_Ha_readFrom_35 : decode q_Ha_readFrom.2.1 35 = .ok (.aload_n 0, 1) := by decide +kernel
theorem d_Ha_readFrom_36 : decode q_Ha_readFrom.2.1 36 = .ok (.getfield 15, 3) := by decide +kernel
theorem d_Ha_readFrom_39 : decode q_Ha_readFrom.2.1 39 = .ok (.iload_n 3, 1) := by decide +kernel
theorem d_Ha_readFrom_40 : decode q_Ha_readFrom.2.1 40 = .ok (.aload_n 1, 1) := by decide +kernel
theorem d_Ha_readFrom_41 : decode q_Ha_readFrom.2.1 41 = .ok (.iload_n 2, 1) := by decide +kernel
theorem d_Ha_readFrom_42 : decode q_Ha_readFrom.2.1 42 = .ok (.iconst 2, 1) := by decide +kernel
theorem d_Ha_readFrom_43 : decode q_Ha_readFrom.2.1 43 = .ok (.iload_n 3, 1) := by decide +kernel
theorem d_Ha_readFrom_44 : decode q_Ha_readFrom.2.1 44 = .ok (.imul, 1) := by decide +kernel
theorem d_Ha_readFrom_45 : decode q_Ha_readFrom.2.1 45 = .ok (.iadd, 1) := by decide +kernel
theorem d_Ha_readFrom_46 : decode q_Ha_readFrom.2.1 46 = .ok (.iconst 1, 1) := by decide +kernel
theorem d_Ha_readFrom_47 : decode q_Ha_readFrom.2.1 47 = .ok (.iadd, 1) := by decide +kernel
theorem d_Ha_readFrom_48 : decode q_Ha_readFrom.2.1 48 = .ok (.iaload, 1) := by decide +kernel
theorem d_Ha_readFrom_49 : decode q_Ha_readFrom.2.1 49 = .ok (.iastore, 1) := by decide +kernel
theorem d_Ha_readFrom_50 : decode q_Ha_readFrom.2.1 50 = .ok (.iinc 3 1, 3) := by decide +kernel
theorem d_Ha_readFrom_53 : decode q_Ha_readFrom.2.1 53 = .ok (.goto (-37), 3) := by decide +kernel
set_option maxHeartbeats 4000000 in
set_option maxRecDepth 20000 in
theorem w_Ha_stands {G : rx_Gh} {hp : rx_Hp} {F : Int32 → rx_Hp → Prop}  (H : ((hp.1 3 4) ≤ 0 → F 0 hp) ∧ (¬ (hp.1 3 4) ≤ 0 → F 1 hp)) : Ev wC G 1 q_Ha_stands [.ref 3] hp (rI F) := by
  refine ev_of rfl (Nat.le_of_ble_eq_true rfl) rfl ?_
  show Rn wC G 1 q_Ha_stands 0 [some (.ref 3)] [] hp (rI F)
  refine r_aload_n (i := 0) d_Ha_stands_0 rfl rfl ?_
  refine r_getI (b := 3) (v := hp.1 3 4) d_Ha_stands_1 fl_Ha_24 (by decide) rfl rfl rfl ?_
  refine r_if_le (tgt := 11) d_Ha_stands_4 (by decide) (fun hc_4 => ?_) (fun hc_4 => ?_)
  · replace H := H.1 hc_4
    refine r_iconst d_Ha_stands_11 ic_0 ?_
    exact rZ_ret d_Ha_stands_12 rfl (by decide) H
  · replace H := H.2 hc_4
    refine r_iconst d_Ha_stands_7 ic_1 ?_
    refine r_goto (tgt := 12) d_Ha_stands_8 (by decide) ?_
    exact rZ_ret d_Ha_stands_12 rfl (by decide) H
set_option maxHeartbeats 4000000 in
set_option maxRecDepth 20000 in
theorem w_Ha_has {G : rx_Gh} {hp : rx_Hp} {F : Int32 → rx_Hp → Prop} (a1 : Int32) (H : (a1 < 0 → F 0 hp) ∧ (¬ a1 < 0 → ((hp.1 3 4) ≤ a1 → F 0 hp) ∧ (¬ (hp.1 3 4) ≤ a1 → F 1 hp))) : Ev wC G 1 q_Ha_has [.ref 3, .int a1] hp (rI F) := by
  refine ev_of rfl (Nat.le_of_ble_eq_true rfl) rfl ?_
  show Rn wC G 1 q_Ha_has 0 [some (.ref 3), some (.int a1)] [] hp (rI F)
  refine r_iload_n (i := 1) d_Ha_has_0 rfl rfl ?_
  refine r_if_lt (tgt := 16) d_Ha_has_1 (by decide) (fun hc_1 => ?_) (fun hc_1 => ?_)
  · replace H := H.1 hc_1
    refine r_iconst d_Ha_has_16 ic_0 ?_
    exact rZ_ret d_Ha_has_17 rfl (by decide) H
  · replace H := H.2 hc_1
    refine r_iload_n (i := 1) d_Ha_has_4 rfl rfl ?_
    refine r_aload_n (i := 0) d_Ha_has_5 rfl rfl ?_
    refine r_getI (b := 3) (v := hp.1 3 4) d_Ha_has_6 fl_Ha_24 (by decide) rfl rfl rfl ?_
    refine r_icmp_ge (tgt := 16) d_Ha_has_9 (by decide) (fun hc_9 => ?_) (fun hc_9 => ?_)
    · replace H := H.1 hc_9
      refine r_iconst d_Ha_has_16 ic_0 ?_
      exact rZ_ret d_Ha_has_17 rfl (by decide) H
    · replace H := H.2 hc_9
      refine r_iconst d_Ha_has_12 ic_1 ?_
      refine r_goto (tgt := 17) d_Ha_has_13 (by decide) ?_
      exact rZ_ret d_Ha_has_17 rfl (by decide) H
set_option maxHeartbeats 4000000 in
set_option maxRecDepth 20000 in
theorem w_Ha_isInside {G : rx_Gh} {hp : rx_Hp} {F : Int32 → rx_Hp → Prop} (a1 : Int32) (a2 : Int32) (H : (a1 < 0 → F 0 hp) ∧ (¬ a1 < 0 → ((hp.1 3 5) < a1 → F 0 hp) ∧ (¬ (hp.1 3 5) < a1 → (a2 < 0 → F 0 hp) ∧ (¬ a2 < 0 → ((hp.1 3 6) < a2 → F 0 hp) ∧ (¬ (hp.1 3 6) < a2 → F 1 hp))))) : Ev wC G 1 q_Ha_isInside [.ref 3, .int a1, .int a2] hp (rI F) := by
  refine ev_of rfl (Nat.le_of_ble_eq_true rfl) rfl ?_
  show Rn wC G 1 q_Ha_isInside 0 [some (.ref 3), some (.int a1), some (.int a2)] [] hp (rI F)
  refine r_iload_n (i := 1) d_Ha_isInside_0 rfl rfl ?_
  refine r_if_lt (tgt := 28) d_Ha_isInside_1 (by decide) (fun hc_1 => ?_) (fun hc_1 => ?_)
  · replace H := H.1 hc_1
    refine r_iconst d_Ha_isInside_28 ic_0 ?_
    exact rZ_ret d_Ha_isInside_29 rfl (by decide) H
  · replace H := H.2 hc_1
    refine r_iload_n (i := 1) d_Ha_isInside_4 rfl rfl ?_
    refine r_aload_n (i := 0) d_Ha_isInside_5 rfl rfl ?_
    refine r_getI (b := 3) (v := hp.1 3 5) d_Ha_isInside_6 fl_Ha_28 (by decide) rfl rfl rfl ?_
    refine r_icmp_gt (tgt := 28) d_Ha_isInside_9 (by decide) (fun hc_9 => ?_) (fun hc_9 => ?_)
    · replace H := H.1 hc_9
      refine r_iconst d_Ha_isInside_28 ic_0 ?_
      exact rZ_ret d_Ha_isInside_29 rfl (by decide) H
    · replace H := H.2 hc_9
      refine r_iload_n (i := 2) d_Ha_isInside_12 rfl rfl ?_
      refine r_if_lt (tgt := 28) d_Ha_isInside_13 (by decide) (fun hc_13 => ?_) (fun hc_13 => ?_)
      · replace H := H.1 hc_13
        refine r_iconst d_Ha_isInside_28 ic_0 ?_
        exact rZ_ret d_Ha_isInside_29 rfl (by decide) H
      · replace H := H.2 hc_13
        refine r_iload_n (i := 2) d_Ha_isInside_16 rfl rfl ?_
        refine r_aload_n (i := 0) d_Ha_isInside_17 rfl rfl ?_
        refine r_getI (b := 3) (v := hp.1 3 6) d_Ha_isInside_18 fl_Ha_31 (by decide) rfl rfl rfl ?_
        refine r_icmp_gt (tgt := 28) d_Ha_isInside_21 (by decide) (fun hc_21 => ?_) (fun hc_21 => ?_)
        · replace H := H.1 hc_21
          refine r_iconst d_Ha_isInside_28 ic_0 ?_
          exact rZ_ret d_Ha_isInside_29 rfl (by decide) H
        · replace H := H.2 hc_21
          refine r_iconst d_Ha_isInside_24 ic_1 ?_
          refine r_goto (tgt := 29) d_Ha_isInside_25 (by decide) ?_
          exact rZ_ret d_Ha_isInside_29 rfl (by decide) H
set_option maxHeartbeats 4000000 in
set_option maxRecDepth 20000 in
theorem w_Ha_brightAfter {G : rx_Gh} {hp : rx_Hp} {F : Int32 → rx_Hp → Prop} (a1 : Int32) (H : (a1 < 0 → F 0 hp) ∧ (¬ a1 < 0 → (21 ≤ a1 → F 0 hp) ∧ (¬ 21 ≤ a1 → vp_in a1 21 ∧ (F (hp.2.1 7 a1.toNatClampNeg) hp)))) : Ev wC G 1 q_Ha_brightAfter [.ref 3, .int a1] hp (rI F) := by
  refine ev_of rfl (Nat.le_of_ble_eq_true rfl) rfl ?_
  show Rn wC G 1 q_Ha_brightAfter 0 [some (.ref 3), some (.int a1)] [] hp (rI F)
  refine r_iload_n (i := 1) d_Ha_brightAfter_0 rfl rfl ?_
  refine r_if_lt (tgt := 22) d_Ha_brightAfter_1 (by decide) (fun hc_1 => ?_) (fun hc_1 => ?_)
  · replace H := H.1 hc_1
    refine r_iconst d_Ha_brightAfter_22 ic_0 ?_
    exact rI_ret d_Ha_brightAfter_23 rfl H
  · replace H := H.2 hc_1
    refine r_iload_n (i := 1) d_Ha_brightAfter_4 rfl rfl ?_
    refine r_aload_n (i := 0) d_Ha_brightAfter_5 rfl rfl ?_
    refine r_getR (b := 3) (r := 7) d_Ha_brightAfter_6 fl_Ha_21 (by decide) rfl rfl rfl ?_
    refine r_alen (b := 7) (n := 21) (v := 21) d_Ha_brightAfter_9 (by decide) rfl al_21 ?_
    refine r_icmp_ge (tgt := 22) d_Ha_brightAfter_10 (by decide) (fun hc_10 => ?_) (fun hc_10 => ?_)
    · replace H := H.1 hc_10
      refine r_iconst d_Ha_brightAfter_22 ic_0 ?_
      exact rI_ret d_Ha_brightAfter_23 rfl H
    · replace H := H.2 hc_10
      refine r_aload_n (i := 0) d_Ha_brightAfter_13 rfl rfl ?_
      refine r_getR (b := 3) (r := 7) d_Ha_brightAfter_14 fl_Ha_21 (by decide) rfl rfl rfl ?_
      refine r_iload_n (i := 1) d_Ha_brightAfter_17 rfl rfl ?_
      obtain ⟨hi_18, H⟩ := H
      refine r_iald (b := 7) (v := hp.2.1 7 a1.toNatClampNeg) d_Ha_brightAfter_18 (by decide) rfl hi_18 rfl ?_
      refine r_goto (tgt := 23) d_Ha_brightAfter_19 (by decide) ?_
      exact rI_ret d_Ha_brightAfter_23 rfl H
set_option maxHeartbeats 4000000 in
set_option maxRecDepth 20000 in
theorem w_Ha_spot {Ω : rx_Om} {G : rx_Gh} {hp : rx_Hp} {F : Int32 → rx_Hp → Prop} (a1 : Int32) (a2 : Int32) (a3 : Int32) (H : ((a1 &&& 1) = 0 → F ((a1 * a2) + a3) hp) ∧ (¬ (a1 &&& 1) = 0 → F ((a1 * a2) + (a2 - a3)) hp)) : Ev Ω G 1 q_Ha_spot [.int a1, .int a2, .int a3] hp (rI F) := by
  refine ev_of rfl (Nat.le_of_ble_eq_true rfl) rfl ?_
  show Rn Ω G 1 q_Ha_spot 0 [some (.int a1), some (.int a2), some (.int a3)] [] hp (rI F)
  refine r_iload_n (i := 0) d_Ha_spot_0 rfl rfl ?_
  refine r_iload_n (i := 1) d_Ha_spot_1 rfl rfl ?_
  refine r_imul d_Ha_spot_2 ?_
  refine r_iload_n (i := 0) d_Ha_spot_3 rfl rfl ?_
  refine r_iconst d_Ha_spot_4 ic_1 ?_
  refine r_iand d_Ha_spot_5 ?_
  refine r_if_ne (tgt := 13) d_Ha_spot_6 (by decide) (fun hc_6 => ?_) (fun hc_6 => ?_)
  · replace H := H.2 hc_6
    refine r_iload_n (i := 1) d_Ha_spot_13 rfl rfl ?_
    refine r_iload_n (i := 2) d_Ha_spot_14 rfl rfl ?_
    refine r_isub d_Ha_spot_15 ?_
    refine r_iadd d_Ha_spot_16 ?_
    exact rI_ret d_Ha_spot_17 rfl H
  · replace H := H.1 hc_6
    refine r_iload_n (i := 2) d_Ha_spot_9 rfl rfl ?_
    refine r_goto (tgt := 16) d_Ha_spot_10 (by decide) ?_
    refine r_iadd d_Ha_spot_16 ?_
    exact rI_ret d_Ha_spot_17 rfl H
set_option maxHeartbeats 4000000 in
set_option maxRecDepth 20000 in
theorem w_Ha_lowCell {Ω : rx_Om} {G : rx_Gh} {hp : rx_Hp} {F : Int32 → rx_Hp → Prop} (a1 : Int32) (H : (a1 = 3 → F (-10) hp) ∧ (¬ a1 = 3 → (a1 = 1 → F (-1) hp) ∧ (¬ a1 = 1 → F 0 hp))) : Ev Ω G 1 q_Ha_lowCell [.int a1] hp (rI F) := by
  refine ev_of rfl (Nat.le_of_ble_eq_true rfl) rfl ?_
  show Rn Ω G 1 q_Ha_lowCell 0 [some (.int a1)] [] hp (rI F)
  refine r_iload_n (i := 0) d_Ha_lowCell_0 rfl rfl ?_
  refine r_iconst d_Ha_lowCell_1 ic_3 ?_
  refine r_icmp_ne (tgt := 10) d_Ha_lowCell_2 (by decide) (fun hc_2 => ?_) (fun hc_2 => ?_)
  · replace H := H.2 hc_2
    refine r_iload_n (i := 0) d_Ha_lowCell_10 rfl rfl ?_
    refine r_iconst d_Ha_lowCell_11 ic_1 ?_
    refine r_icmp_ne (tgt := 19) d_Ha_lowCell_12 (by decide) (fun hc_12 => ?_) (fun hc_12 => ?_)
    · replace H := H.2 hc_12
      refine r_iconst d_Ha_lowCell_19 ic_0 ?_
      exact rI_ret d_Ha_lowCell_20 rfl H
    · replace H := H.1 hc_12
      refine r_iconst d_Ha_lowCell_15 ic_m1 ?_
      refine r_goto (tgt := 20) d_Ha_lowCell_16 (by decide) ?_
      exact rI_ret d_Ha_lowCell_20 rfl H
  · replace H := H.1 hc_2
    refine r_bipush d_Ha_lowCell_5 bp_m10 ?_
    refine r_goto (tgt := 20) d_Ha_lowCell_7 (by decide) ?_
    exact rI_ret d_Ha_lowCell_20 rfl H
set_option maxHeartbeats 4000000 in
set_option maxRecDepth 20000 in
theorem w_Ha_highCell {Ω : rx_Om} {G : rx_Gh} {hp : rx_Hp} {F : Int32 → rx_Hp → Prop} (a1 : Int32) (H : (a1 = 3 → F 10 hp) ∧ (¬ a1 = 3 → (a1 = 2 → F 1 hp) ∧ (¬ a1 = 2 → F 0 hp))) : Ev Ω G 1 q_Ha_highCell [.int a1] hp (rI F) := by
  refine ev_of rfl (Nat.le_of_ble_eq_true rfl) rfl ?_
  show Rn Ω G 1 q_Ha_highCell 0 [some (.int a1)] [] hp (rI F)
  refine r_iload_n (i := 0) d_Ha_highCell_0 rfl rfl ?_
  refine r_iconst d_Ha_highCell_1 ic_3 ?_
  refine r_icmp_ne (tgt := 10) d_Ha_highCell_2 (by decide) (fun hc_2 => ?_) (fun hc_2 => ?_)
  · replace H := H.2 hc_2
    refine r_iload_n (i := 0) d_Ha_highCell_10 rfl rfl ?_
    refine r_iconst d_Ha_highCell_11 ic_2 ?_
    refine r_icmp_ne (tgt := 19) d_Ha_highCell_12 (by decide) (fun hc_12 => ?_) (fun hc_12 => ?_)
    · replace H := H.2 hc_12
      refine r_iconst d_Ha_highCell_19 ic_0 ?_
      exact rI_ret d_Ha_highCell_20 rfl H
    · replace H := H.1 hc_12
      refine r_iconst d_Ha_highCell_15 ic_1 ?_
      refine r_goto (tgt := 20) d_Ha_highCell_16 (by decide) ?_
      exact rI_ret d_Ha_highCell_20 rfl H
  · replace H := H.1 hc_2
    refine r_bipush d_Ha_highCell_5 bp_10 ?_
    refine r_goto (tgt := 20) d_Ha_highCell_7 (by decide) ?_
    exact rI_ret d_Ha_highCell_20 rfl H
set_option maxHeartbeats 4000000 in
set_option maxRecDepth 20000 in
theorem w_Ha_become {G : rx_Gh} {hp : rx_Hp} {F : rx_Hp → Prop}  (H : Rn wC G 1 q_Ha_become 42 [some (.ref 3), some (.ref 10), some (.int 0), none] [] (rx_pf (rx_pf (rx_pf (rx_pf (rx_pf hp 3 4 (hp.1 10 4)) 3 5 (hp.1 10 5)) 3 6 (hp.1 10 6)) 3 7 (hp.1 10 7)) 3 8 (hp.1 10 8)) (rV F)) : Ev wC G 1 q_Ha_become [.ref 3, .ref 10] hp (rV F) := by
  refine ev_of rfl (Nat.le_of_ble_eq_true rfl) rfl ?_
  show Rn wC G 1 q_Ha_become 0 [some (.ref 3), some (.ref 10), none, none] [] hp (rV F)
  refine r_aload_n (i := 0) d_Ha_become_0 rfl rfl ?_
  refine r_aload_n (i := 1) d_Ha_become_1 rfl rfl ?_
  refine r_getI (b := 10) (v := hp.1 10 4) d_Ha_become_2 fl_Ha_24 (by decide) rfl rfl rfl ?_
  refine r_putI (b := 3) d_Ha_become_5 fp_Ha_24 ⟨rfl, rfl⟩ (by decide) rfl rfl ?_
  refine r_aload_n (i := 0) d_Ha_become_8 rfl rfl ?_
  refine r_aload_n (i := 1) d_Ha_become_9 rfl rfl ?_
  refine r_getI (b := 10) (v := hp.1 10 5) d_Ha_become_10 fl_Ha_28 (by decide) rfl rfl rfl ?_
  refine r_putI (b := 3) d_Ha_become_13 fp_Ha_28 ⟨rfl, rfl⟩ (by decide) rfl rfl ?_
  refine r_aload_n (i := 0) d_Ha_become_16 rfl rfl ?_
  refine r_aload_n (i := 1) d_Ha_become_17 rfl rfl ?_
  refine r_getI (b := 10) (v := hp.1 10 6) d_Ha_become_18 fl_Ha_31 (by decide) rfl rfl rfl ?_
  refine r_putI (b := 3) d_Ha_become_21 fp_Ha_31 ⟨rfl, rfl⟩ (by decide) rfl rfl ?_
  refine r_aload_n (i := 0) d_Ha_become_24 rfl rfl ?_
  refine r_aload_n (i := 1) d_Ha_become_25 rfl rfl ?_
  refine r_getI (b := 10) (v := hp.1 10 7) d_Ha_become_26 fl_Ha_34 (by decide) rfl rfl rfl ?_
  refine r_putI (b := 3) d_Ha_become_29 fp_Ha_34 ⟨rfl, rfl⟩ (by decide) rfl rfl ?_
  refine r_aload_n (i := 0) d_Ha_become_32 rfl rfl ?_
  refine r_aload_n (i := 1) d_Ha_become_33 rfl rfl ?_
  refine r_getI (b := 10) (v := hp.1 10 8) d_Ha_become_34 fl_Ha_37 (by decide) rfl rfl rfl ?_
  refine r_putI (b := 3) d_Ha_become_37 fp_Ha_37 ⟨rfl, rfl⟩ (by decide) rfl rfl ?_
  refine r_iconst d_Ha_become_40 ic_0 ?_
  refine r_istore_n (i := 2) (lz := [some (.ref 3), some (.ref 10), some (.int 0), none]) d_Ha_become_41 rfl (by decide) rfl rfl ?_
  exact H
set_option maxHeartbeats 4000000 in
set_option maxRecDepth 20000 in
theorem w_Ha_become_42 {G : rx_Gh} {hp : rx_Hp} {F : rx_Hp → Prop} (x2 : Int32) (H : (6 ≤ x2 → Rn wC G 1 q_Ha_become 95 [some (.ref 3), some (.ref 10), some (.int 1000000), some (.int 0)] [] hp (rV F)) ∧ (¬ 6 ≤ x2 → vp_in x2 6 ∧ (Rn wC G 1 q_Ha_become 42 [some (.ref 3), some (.ref 10), some (.int (x2 + 1)), none] [] (rx_pa (rx_pa (rx_pa hp 4 x2.toNatClampNeg (hp.2.1 11 x2.toNatClampNeg)) 5 x2.toNatClampNeg (hp.2.1 12 x2.toNatClampNeg)) 6 x2.toNatClampNeg (hp.2.1 13 x2.toNatClampNeg)) (rV F)))) : Rn wC G 1 q_Ha_become 42 [some (.ref 3), some (.ref 10), some (.int x2), none] [] hp (rV F) := by
  refine r_iload_n (i := 2) d_Ha_become_42 rfl rfl ?_
  refine r_bipush d_Ha_become_43 bp_6 ?_
  refine r_icmp_ge (tgt := 90) d_Ha_become_45 (by decide) (fun hc_45 => ?_) (fun hc_45 => ?_)
  · replace H := H.1 hc_45
    refine r_ldc d_Ha_become_90 ck_Ha_40 ?_
    refine r_istore_n (i := 2) (lz := [some (.ref 3), some (.ref 10), some (.int 1000000), none]) d_Ha_become_92 rfl (by decide) rfl rfl ?_
    refine r_iconst d_Ha_become_93 ic_0 ?_
    refine r_istore_n (i := 3) (lz := [some (.ref 3), some (.ref 10), some (.int 1000000), some (.int 0)]) d_Ha_become_94 rfl (by decide) rfl rfl ?_
    exact H
  · replace H := H.2 hc_45
    refine r_aload_n (i := 0) d_Ha_become_48 rfl rfl ?_
    refine r_getR (b := 3) (r := 4) d_Ha_become_49 fl_Ha_9 (by decide) rfl rfl rfl ?_
    refine r_iload_n (i := 2) d_Ha_become_52 rfl rfl ?_
    refine r_aload_n (i := 1) d_Ha_become_53 rfl rfl ?_
    refine r_getR (b := 10) (r := 11) d_Ha_become_54 fl_Ha_9 (by decide) rfl rfl rfl ?_
    refine r_iload_n (i := 2) d_Ha_become_57 rfl rfl ?_
    obtain ⟨hi_58, H⟩ := H
    refine r_iald (b := 11) (v := hp.2.1 11 x2.toNatClampNeg) d_Ha_become_58 (by decide) rfl hi_58 rfl ?_
    refine r_iast (b := 4) d_Ha_become_59 (by decide) rfl hi_58 ?_
    refine r_aload_n (i := 0) d_Ha_become_60 rfl rfl ?_
    refine r_getR (b := 3) (r := 5) d_Ha_become_61 fl_Ha_15 (by decide) rfl rfl rfl ?_
    refine r_iload_n (i := 2) d_Ha_become_64 rfl rfl ?_
    refine r_aload_n (i := 1) d_Ha_become_65 rfl rfl ?_
    refine r_getR (b := 10) (r := 12) d_Ha_become_66 fl_Ha_15 (by decide) rfl rfl rfl ?_
    refine r_iload_n (i := 2) d_Ha_become_69 rfl rfl ?_
    refine r_iald (b := 12) (v := hp.2.1 12 x2.toNatClampNeg) d_Ha_become_70 (by decide) rfl hi_58 rfl ?_
    refine r_iast (b := 5) d_Ha_become_71 (by decide) rfl hi_58 ?_
    refine r_aload_n (i := 0) d_Ha_become_72 rfl rfl ?_
    refine r_getR (b := 3) (r := 6) d_Ha_become_73 fl_Ha_18 (by decide) rfl rfl rfl ?_
    refine r_iload_n (i := 2) d_Ha_become_76 rfl rfl ?_
    refine r_aload_n (i := 1) d_Ha_become_77 rfl rfl ?_
    refine r_getR (b := 10) (r := 13) d_Ha_become_78 fl_Ha_18 (by decide) rfl rfl rfl ?_
    refine r_iload_n (i := 2) d_Ha_become_81 rfl rfl ?_
    refine r_iald (b := 13) (v := hp.2.1 13 x2.toNatClampNeg) d_Ha_become_82 (by decide) rfl hi_58 rfl ?_
    refine r_iast (b := 6) d_Ha_become_83 (by decide) rfl hi_58 ?_
    refine r_iinc (v := x2 + 1) (lz := [some (.ref 3), some (.ref 10), some (.int (x2 + 1)), none]) d_Ha_become_84 rfl (by rw [ic_1]) (by decide) rfl rfl ?_
    refine r_goto (tgt := 42) d_Ha_become_87 (by decide) ?_
    exact H
set_option maxHeartbeats 4000000 in
set_option maxRecDepth 20000 in
theorem w_Ha_become_95 {G : rx_Gh} {hp : rx_Hp} {F : rx_Hp → Prop} (x2 : Int32) (x3 : Int32) (H : (21 ≤ x3 → F hp) ∧ (¬ 21 ≤ x3 → vp_in x3 21 ∧ (Rn wC G 1 q_Ha_become 95 [some (.ref 3), some (.ref 10), some (.int ((x2 * (100 - (hp.1 3 8))) / 100)), some (.int (x3 + 1))] [] (rx_pa hp 7 x3.toNatClampNeg x2) (rV F)))) : Rn wC G 1 q_Ha_become 95 [some (.ref 3), some (.ref 10), some (.int x2), some (.int x3)] [] hp (rV F) := by
  refine r_iload_n (i := 3) d_Ha_become_95 rfl rfl ?_
  refine r_aload_n (i := 0) d_Ha_become_96 rfl rfl ?_
  refine r_getR (b := 3) (r := 7) d_Ha_become_97 fl_Ha_21 (by decide) rfl rfl rfl ?_
  refine r_alen (b := 7) (n := 21) (v := 21) d_Ha_become_100 (by decide) rfl al_21 ?_
  refine r_icmp_ge (tgt := 130) d_Ha_become_101 (by decide) (fun hc_101 => ?_) (fun hc_101 => ?_)
  · replace H := H.1 hc_101
    exact rV_ret d_Ha_become_130 rfl H
  · replace H := H.2 hc_101
    refine r_aload_n (i := 0) d_Ha_become_104 rfl rfl ?_
    refine r_getR (b := 3) (r := 7) d_Ha_become_105 fl_Ha_21 (by decide) rfl rfl rfl ?_
    refine r_iload_n (i := 3) d_Ha_become_108 rfl rfl ?_
    refine r_iload_n (i := 2) d_Ha_become_109 rfl rfl ?_
    obtain ⟨hi_110, H⟩ := H
    refine r_iast (b := 7) d_Ha_become_110 (by decide) rfl hi_110 ?_
    refine r_iload_n (i := 2) d_Ha_become_111 rfl rfl ?_
    refine r_bipush d_Ha_become_112 bp_100 ?_
    refine r_aload_n (i := 0) d_Ha_become_114 rfl rfl ?_
    refine r_getI (b := 3) (v := hp.1 3 8) d_Ha_become_115 fl_Ha_37 (by decide) rfl rfl rfl ?_
    refine r_isub d_Ha_become_118 ?_
    refine r_imul d_Ha_become_119 ?_
    refine r_bipush d_Ha_become_120 bp_100 ?_
    refine r_idiv d_Ha_become_122 (by decide) ?_
    refine r_istore_n (i := 2) (lz := [some (.ref 3), some (.ref 10), some (.int ((x2 * (100 - (hp.1 3 8))) / 100)), some (.int x3)]) d_Ha_become_123 rfl (by decide) rfl rfl ?_
    refine r_iinc (v := x3 + 1) (lz := [some (.ref 3), some (.ref 10), some (.int ((x2 * (100 - (hp.1 3 8))) / 100)), some (.int (x3 + 1))]) d_Ha_become_124 rfl (by rw [ic_1]) (by decide) rfl rfl ?_
    refine r_goto (tgt := 95) d_Ha_become_127 (by decide) ?_
    exact H
set_option maxHeartbeats 4000000 in
set_option maxRecDepth 20000 in
theorem w_Ha_wander {G : rx_Gh} {hp : rx_Hp} {F : rx_Hp → Prop} (a1 : Int32) (a2 : Int32) (H : vp_in a1 6 ∧ ((a2 = 1 → (a2 = 2 → Ev wC G 1 q_Ha_isInside [.ref 3, .int ((hp.2.1 4 a1.toNatClampNeg) + 1), .int ((hp.2.1 5 a1.toNatClampNeg) + 1)] hp (rI fun r2 h1 => (r2 = 0 → F h1) ∧ (¬ r2 = 0 → F (rx_pa (rx_pa h1 4 a1.toNatClampNeg ((hp.2.1 4 a1.toNatClampNeg) + 1)) 5 a1.toNatClampNeg ((hp.2.1 5 a1.toNatClampNeg) + 1))))) ∧ (¬ a2 = 2 → (a2 = 4 → Ev wC G 1 q_Ha_isInside [.ref 3, .int ((hp.2.1 4 a1.toNatClampNeg) + 1), .int ((hp.2.1 5 a1.toNatClampNeg) + (-1))] hp (rI fun r4 h3 => (r4 = 0 → F h3) ∧ (¬ r4 = 0 → F (rx_pa (rx_pa h3 4 a1.toNatClampNeg ((hp.2.1 4 a1.toNatClampNeg) + 1)) 5 a1.toNatClampNeg ((hp.2.1 5 a1.toNatClampNeg) + (-1)))))) ∧ (¬ a2 = 4 → Ev wC G 1 q_Ha_isInside [.ref 3, .int ((hp.2.1 4 a1.toNatClampNeg) + 1), .int ((hp.2.1 5 a1.toNatClampNeg) + 0)] hp (rI fun r6 h5 => (r6 = 0 → F h5) ∧ (¬ r6 = 0 → F (rx_pa (rx_pa h5 4 a1.toNatClampNeg ((hp.2.1 4 a1.toNatClampNeg) + 1)) 5 a1.toNatClampNeg ((hp.2.1 5 a1.toNatClampNeg) + 0))))))) ∧ (¬ a2 = 1 → (a2 = 3 → (a2 = 2 → Ev wC G 1 q_Ha_isInside [.ref 3, .int ((hp.2.1 4 a1.toNatClampNeg) + (-1)), .int ((hp.2.1 5 a1.toNatClampNeg) + 1)] hp (rI fun r8 h7 => (r8 = 0 → F h7) ∧ (¬ r8 = 0 → F (rx_pa (rx_pa h7 4 a1.toNatClampNeg ((hp.2.1 4 a1.toNatClampNeg) + (-1))) 5 a1.toNatClampNeg ((hp.2.1 5 a1.toNatClampNeg) + 1))))) ∧ (¬ a2 = 2 → (a2 = 4 → Ev wC G 1 q_Ha_isInside [.ref 3, .int ((hp.2.1 4 a1.toNatClampNeg) + (-1)), .int ((hp.2.1 5 a1.toNatClampNeg) + (-1))] hp (rI fun r10 h9 => (r10 = 0 → F h9) ∧ (¬ r10 = 0 → F (rx_pa (rx_pa h9 4 a1.toNatClampNeg ((hp.2.1 4 a1.toNatClampNeg) + (-1))) 5 a1.toNatClampNeg ((hp.2.1 5 a1.toNatClampNeg) + (-1)))))) ∧ (¬ a2 = 4 → Ev wC G 1 q_Ha_isInside [.ref 3, .int ((hp.2.1 4 a1.toNatClampNeg) + (-1)), .int ((hp.2.1 5 a1.toNatClampNeg) + 0)] hp (rI fun r12 h11 => (r12 = 0 → F h11) ∧ (¬ r12 = 0 → F (rx_pa (rx_pa h11 4 a1.toNatClampNeg ((hp.2.1 4 a1.toNatClampNeg) + (-1))) 5 a1.toNatClampNeg ((hp.2.1 5 a1.toNatClampNeg) + 0))))))) ∧ (¬ a2 = 3 → (a2 = 2 → Ev wC G 1 q_Ha_isInside [.ref 3, .int ((hp.2.1 4 a1.toNatClampNeg) + 0), .int ((hp.2.1 5 a1.toNatClampNeg) + 1)] hp (rI fun r14 h13 => (r14 = 0 → F h13) ∧ (¬ r14 = 0 → F (rx_pa (rx_pa h13 4 a1.toNatClampNeg ((hp.2.1 4 a1.toNatClampNeg) + 0)) 5 a1.toNatClampNeg ((hp.2.1 5 a1.toNatClampNeg) + 1))))) ∧ (¬ a2 = 2 → (a2 = 4 → Ev wC G 1 q_Ha_isInside [.ref 3, .int ((hp.2.1 4 a1.toNatClampNeg) + 0), .int ((hp.2.1 5 a1.toNatClampNeg) + (-1))] hp (rI fun r16 h15 => (r16 = 0 → F h15) ∧ (¬ r16 = 0 → F (rx_pa (rx_pa h15 4 a1.toNatClampNeg ((hp.2.1 4 a1.toNatClampNeg) + 0)) 5 a1.toNatClampNeg ((hp.2.1 5 a1.toNatClampNeg) + (-1)))))) ∧ (¬ a2 = 4 → Ev wC G 1 q_Ha_isInside [.ref 3, .int ((hp.2.1 4 a1.toNatClampNeg) + 0), .int ((hp.2.1 5 a1.toNatClampNeg) + 0)] hp (rI fun r18 h17 => (r18 = 0 → F h17) ∧ (¬ r18 = 0 → F (rx_pa (rx_pa h17 4 a1.toNatClampNeg ((hp.2.1 4 a1.toNatClampNeg) + 0)) 5 a1.toNatClampNeg ((hp.2.1 5 a1.toNatClampNeg) + 0)))))))))) : Ev wC G 2 q_Ha_wander [.ref 3, .int a1, .int a2] hp (rV F) := by
  refine ev_of rfl (Nat.le_of_ble_eq_true rfl) rfl ?_
  show Rn wC G 2 q_Ha_wander 0 [some (.ref 3), some (.int a1), some (.int a2), none, none] [] hp (rV F)
  refine r_aload_n (i := 0) d_Ha_wander_0 rfl rfl ?_
  refine r_getR (b := 3) (r := 4) d_Ha_wander_1 fl_Ha_9 (by decide) rfl rfl rfl ?_
  refine r_iload_n (i := 1) d_Ha_wander_4 rfl rfl ?_
  obtain ⟨hi_5, H⟩ := H
  refine r_iald (b := 4) (v := hp.2.1 4 a1.toNatClampNeg) d_Ha_wander_5 (by decide) rfl hi_5 rfl ?_
  refine r_iload_n (i := 2) d_Ha_wander_6 rfl rfl ?_
  refine r_iconst d_Ha_wander_7 ic_1 ?_
  refine r_icmp_ne (tgt := 15) d_Ha_wander_8 (by decide) (fun hc_8 => ?_) (fun hc_8 => ?_)
  · replace H := H.2 hc_8
    refine r_iload_n (i := 2) d_Ha_wander_15 rfl rfl ?_
    refine r_iconst d_Ha_wander_16 ic_3 ?_
    refine r_icmp_ne (tgt := 24) d_Ha_wander_17 (by decide) (fun hc_17 => ?_) (fun hc_17 => ?_)
    · replace H := H.2 hc_17
      refine r_iconst d_Ha_wander_24 ic_0 ?_
      refine r_iadd d_Ha_wander_25 ?_
      refine r_istore_n (i := 3) (lz := [some (.ref 3), some (.int a1), some (.int a2), some (.int ((hp.2.1 4 a1.toNatClampNeg) + 0)), none]) d_Ha_wander_26 rfl (by decide) rfl rfl ?_
      refine r_aload_n (i := 0) d_Ha_wander_27 rfl rfl ?_
      refine r_getR (b := 3) (r := 5) d_Ha_wander_28 fl_Ha_15 (by decide) rfl rfl rfl ?_
      refine r_iload_n (i := 1) d_Ha_wander_31 rfl rfl ?_
      refine r_iald (b := 5) (v := hp.2.1 5 a1.toNatClampNeg) d_Ha_wander_32 (by decide) rfl hi_5 rfl ?_
      refine r_iload_n (i := 2) d_Ha_wander_33 rfl rfl ?_
      refine r_iconst d_Ha_wander_34 ic_2 ?_
      refine r_icmp_ne (tgt := 42) d_Ha_wander_35 (by decide) (fun hc_35 => ?_) (fun hc_35 => ?_)
      · replace H := H.2 hc_35
        refine r_iload_n (i := 2) d_Ha_wander_42 rfl rfl ?_
        refine r_iconst d_Ha_wander_43 ic_4 ?_
        refine r_icmp_ne (tgt := 51) d_Ha_wander_44 (by decide) (fun hc_44 => ?_) (fun hc_44 => ?_)
        · replace H := H.2 hc_44
          refine r_iconst d_Ha_wander_51 ic_0 ?_
          refine r_iadd d_Ha_wander_52 ?_
          refine r_istore (lz := [some (.ref 3), some (.int a1), some (.int a2), some (.int ((hp.2.1 4 a1.toNatClampNeg) + 0)), some (.int ((hp.2.1 5 a1.toNatClampNeg) + 0))]) d_Ha_wander_53 (by decide) rfl rfl ?_
          refine r_aload_n (i := 0) d_Ha_wander_55 rfl rfl ?_
          refine r_iload_n (i := 3) d_Ha_wander_56 rfl rfl ?_
          refine r_iload d_Ha_wander_57 rfl ?_
          refine rc_VI (b := 3) (d' := 1) [.int ((hp.2.1 4 a1.toNatClampNeg) + 0), .int ((hp.2.1 5 a1.toNatClampNeg) + 0)] [] d_Ha_wander_59 ml_Ha_41 rfl rfl (by decide) (by decide) rfl rfl (Nat.le_of_ble_eq_true rfl) H ?_
          intro r18 h17 H
          refine r_if_eq (tgt := 80) d_Ha_wander_62 (by decide) (fun hc_62 => ?_) (fun hc_62 => ?_)
          · replace H := H.1 hc_62
            exact rV_ret d_Ha_wander_80 rfl H
          · replace H := H.2 hc_62
            refine r_aload_n (i := 0) d_Ha_wander_65 rfl rfl ?_
            refine r_getR (b := 3) (r := 4) d_Ha_wander_66 fl_Ha_9 (by decide) rfl rfl rfl ?_
            refine r_iload_n (i := 1) d_Ha_wander_69 rfl rfl ?_
            refine r_iload_n (i := 3) d_Ha_wander_70 rfl rfl ?_
            refine r_iast (b := 4) d_Ha_wander_71 (by decide) rfl hi_5 ?_
            refine r_aload_n (i := 0) d_Ha_wander_72 rfl rfl ?_
            refine r_getR (b := 3) (r := 5) d_Ha_wander_73 fl_Ha_15 (by decide) rfl rfl rfl ?_
            refine r_iload_n (i := 1) d_Ha_wander_76 rfl rfl ?_
            refine r_iload d_Ha_wander_77 rfl ?_
            refine r_iast (b := 5) d_Ha_wander_79 (by decide) rfl hi_5 ?_
            exact rV_ret d_Ha_wander_80 rfl H
        · replace H := H.1 hc_44
          refine r_iconst d_Ha_wander_47 ic_m1 ?_
          refine r_goto (tgt := 52) d_Ha_wander_48 (by decide) ?_
          refine r_iadd d_Ha_wander_52 ?_
          refine r_istore (lz := [some (.ref 3), some (.int a1), some (.int a2), some (.int ((hp.2.1 4 a1.toNatClampNeg) + 0)), some (.int ((hp.2.1 5 a1.toNatClampNeg) + (-1)))]) d_Ha_wander_53 (by decide) rfl rfl ?_
          refine r_aload_n (i := 0) d_Ha_wander_55 rfl rfl ?_
          refine r_iload_n (i := 3) d_Ha_wander_56 rfl rfl ?_
          refine r_iload d_Ha_wander_57 rfl ?_
          refine rc_VI (b := 3) (d' := 1) [.int ((hp.2.1 4 a1.toNatClampNeg) + 0), .int ((hp.2.1 5 a1.toNatClampNeg) + (-1))] [] d_Ha_wander_59 ml_Ha_41 rfl rfl (by decide) (by decide) rfl rfl (Nat.le_of_ble_eq_true rfl) H ?_
          intro r16 h15 H
          refine r_if_eq (tgt := 80) d_Ha_wander_62 (by decide) (fun hc_62 => ?_) (fun hc_62 => ?_)
          · replace H := H.1 hc_62
            exact rV_ret d_Ha_wander_80 rfl H
          · replace H := H.2 hc_62
            refine r_aload_n (i := 0) d_Ha_wander_65 rfl rfl ?_
            refine r_getR (b := 3) (r := 4) d_Ha_wander_66 fl_Ha_9 (by decide) rfl rfl rfl ?_
            refine r_iload_n (i := 1) d_Ha_wander_69 rfl rfl ?_
            refine r_iload_n (i := 3) d_Ha_wander_70 rfl rfl ?_
            refine r_iast (b := 4) d_Ha_wander_71 (by decide) rfl hi_5 ?_
            refine r_aload_n (i := 0) d_Ha_wander_72 rfl rfl ?_
            refine r_getR (b := 3) (r := 5) d_Ha_wander_73 fl_Ha_15 (by decide) rfl rfl rfl ?_
            refine r_iload_n (i := 1) d_Ha_wander_76 rfl rfl ?_
            refine r_iload d_Ha_wander_77 rfl ?_
            refine r_iast (b := 5) d_Ha_wander_79 (by decide) rfl hi_5 ?_
            exact rV_ret d_Ha_wander_80 rfl H
      · replace H := H.1 hc_35
        refine r_iconst d_Ha_wander_38 ic_1 ?_
        refine r_goto (tgt := 52) d_Ha_wander_39 (by decide) ?_
        refine r_iadd d_Ha_wander_52 ?_
        refine r_istore (lz := [some (.ref 3), some (.int a1), some (.int a2), some (.int ((hp.2.1 4 a1.toNatClampNeg) + 0)), some (.int ((hp.2.1 5 a1.toNatClampNeg) + 1))]) d_Ha_wander_53 (by decide) rfl rfl ?_
        refine r_aload_n (i := 0) d_Ha_wander_55 rfl rfl ?_
        refine r_iload_n (i := 3) d_Ha_wander_56 rfl rfl ?_
        refine r_iload d_Ha_wander_57 rfl ?_
        refine rc_VI (b := 3) (d' := 1) [.int ((hp.2.1 4 a1.toNatClampNeg) + 0), .int ((hp.2.1 5 a1.toNatClampNeg) + 1)] [] d_Ha_wander_59 ml_Ha_41 rfl rfl (by decide) (by decide) rfl rfl (Nat.le_of_ble_eq_true rfl) H ?_
        intro r14 h13 H
        refine r_if_eq (tgt := 80) d_Ha_wander_62 (by decide) (fun hc_62 => ?_) (fun hc_62 => ?_)
        · replace H := H.1 hc_62
          exact rV_ret d_Ha_wander_80 rfl H
        · replace H := H.2 hc_62
          refine r_aload_n (i := 0) d_Ha_wander_65 rfl rfl ?_
          refine r_getR (b := 3) (r := 4) d_Ha_wander_66 fl_Ha_9 (by decide) rfl rfl rfl ?_
          refine r_iload_n (i := 1) d_Ha_wander_69 rfl rfl ?_
          refine r_iload_n (i := 3) d_Ha_wander_70 rfl rfl ?_
          refine r_iast (b := 4) d_Ha_wander_71 (by decide) rfl hi_5 ?_
          refine r_aload_n (i := 0) d_Ha_wander_72 rfl rfl ?_
          refine r_getR (b := 3) (r := 5) d_Ha_wander_73 fl_Ha_15 (by decide) rfl rfl rfl ?_
          refine r_iload_n (i := 1) d_Ha_wander_76 rfl rfl ?_
          refine r_iload d_Ha_wander_77 rfl ?_
          refine r_iast (b := 5) d_Ha_wander_79 (by decide) rfl hi_5 ?_
          exact rV_ret d_Ha_wander_80 rfl H
    · replace H := H.1 hc_17
      refine r_iconst d_Ha_wander_20 ic_m1 ?_
      refine r_goto (tgt := 25) d_Ha_wander_21 (by decide) ?_
      refine r_iadd d_Ha_wander_25 ?_
      refine r_istore_n (i := 3) (lz := [some (.ref 3), some (.int a1), some (.int a2), some (.int ((hp.2.1 4 a1.toNatClampNeg) + (-1))), none]) d_Ha_wander_26 rfl (by decide) rfl rfl ?_
      refine r_aload_n (i := 0) d_Ha_wander_27 rfl rfl ?_
      refine r_getR (b := 3) (r := 5) d_Ha_wander_28 fl_Ha_15 (by decide) rfl rfl rfl ?_
      refine r_iload_n (i := 1) d_Ha_wander_31 rfl rfl ?_
      refine r_iald (b := 5) (v := hp.2.1 5 a1.toNatClampNeg) d_Ha_wander_32 (by decide) rfl hi_5 rfl ?_
      refine r_iload_n (i := 2) d_Ha_wander_33 rfl rfl ?_
      refine r_iconst d_Ha_wander_34 ic_2 ?_
      refine r_icmp_ne (tgt := 42) d_Ha_wander_35 (by decide) (fun hc_35 => ?_) (fun hc_35 => ?_)
      · replace H := H.2 hc_35
        refine r_iload_n (i := 2) d_Ha_wander_42 rfl rfl ?_
        refine r_iconst d_Ha_wander_43 ic_4 ?_
        refine r_icmp_ne (tgt := 51) d_Ha_wander_44 (by decide) (fun hc_44 => ?_) (fun hc_44 => ?_)
        · replace H := H.2 hc_44
          refine r_iconst d_Ha_wander_51 ic_0 ?_
          refine r_iadd d_Ha_wander_52 ?_
          refine r_istore (lz := [some (.ref 3), some (.int a1), some (.int a2), some (.int ((hp.2.1 4 a1.toNatClampNeg) + (-1))), some (.int ((hp.2.1 5 a1.toNatClampNeg) + 0))]) d_Ha_wander_53 (by decide) rfl rfl ?_
          refine r_aload_n (i := 0) d_Ha_wander_55 rfl rfl ?_
          refine r_iload_n (i := 3) d_Ha_wander_56 rfl rfl ?_
          refine r_iload d_Ha_wander_57 rfl ?_
          refine rc_VI (b := 3) (d' := 1) [.int ((hp.2.1 4 a1.toNatClampNeg) + (-1)), .int ((hp.2.1 5 a1.toNatClampNeg) + 0)] [] d_Ha_wander_59 ml_Ha_41 rfl rfl (by decide) (by decide) rfl rfl (Nat.le_of_ble_eq_true rfl) H ?_
          intro r12 h11 H
          refine r_if_eq (tgt := 80) d_Ha_wander_62 (by decide) (fun hc_62 => ?_) (fun hc_62 => ?_)
          · replace H := H.1 hc_62
            exact rV_ret d_Ha_wander_80 rfl H
          · replace H := H.2 hc_62
            refine r_aload_n (i := 0) d_Ha_wander_65 rfl rfl ?_
            refine r_getR (b := 3) (r := 4) d_Ha_wander_66 fl_Ha_9 (by decide) rfl rfl rfl ?_
            refine r_iload_n (i := 1) d_Ha_wander_69 rfl rfl ?_
            refine r_iload_n (i := 3) d_Ha_wander_70 rfl rfl ?_
            refine r_iast (b := 4) d_Ha_wander_71 (by decide) rfl hi_5 ?_
            refine r_aload_n (i := 0) d_Ha_wander_72 rfl rfl ?_
            refine r_getR (b := 3) (r := 5) d_Ha_wander_73 fl_Ha_15 (by decide) rfl rfl rfl ?_
            refine r_iload_n (i := 1) d_Ha_wander_76 rfl rfl ?_
            refine r_iload d_Ha_wander_77 rfl ?_
            refine r_iast (b := 5) d_Ha_wander_79 (by decide) rfl hi_5 ?_
            exact rV_ret d_Ha_wander_80 rfl H
        · replace H := H.1 hc_44
          refine r_iconst d_Ha_wander_47 ic_m1 ?_
          refine r_goto (tgt := 52) d_Ha_wander_48 (by decide) ?_
          refine r_iadd d_Ha_wander_52 ?_
          refine r_istore (lz := [some (.ref 3), some (.int a1), some (.int a2), some (.int ((hp.2.1 4 a1.toNatClampNeg) + (-1))), some (.int ((hp.2.1 5 a1.toNatClampNeg) + (-1)))]) d_Ha_wander_53 (by decide) rfl rfl ?_
          refine r_aload_n (i := 0) d_Ha_wander_55 rfl rfl ?_
          refine r_iload_n (i := 3) d_Ha_wander_56 rfl rfl ?_
          refine r_iload d_Ha_wander_57 rfl ?_
          refine rc_VI (b := 3) (d' := 1) [.int ((hp.2.1 4 a1.toNatClampNeg) + (-1)), .int ((hp.2.1 5 a1.toNatClampNeg) + (-1))] [] d_Ha_wander_59 ml_Ha_41 rfl rfl (by decide) (by decide) rfl rfl (Nat.le_of_ble_eq_true rfl) H ?_
          intro r10 h9 H
          refine r_if_eq (tgt := 80) d_Ha_wander_62 (by decide) (fun hc_62 => ?_) (fun hc_62 => ?_)
          · replace H := H.1 hc_62
            exact rV_ret d_Ha_wander_80 rfl H
          · replace H := H.2 hc_62
            refine r_aload_n (i := 0) d_Ha_wander_65 rfl rfl ?_
            refine r_getR (b := 3) (r := 4) d_Ha_wander_66 fl_Ha_9 (by decide) rfl rfl rfl ?_
            refine r_iload_n (i := 1) d_Ha_wander_69 rfl rfl ?_
            refine r_iload_n (i := 3) d_Ha_wander_70 rfl rfl ?_
            refine r_iast (b := 4) d_Ha_wander_71 (by decide) rfl hi_5 ?_
            refine r_aload_n (i := 0) d_Ha_wander_72 rfl rfl ?_
            refine r_getR (b := 3) (r := 5) d_Ha_wander_73 fl_Ha_15 (by decide) rfl rfl rfl ?_
            refine r_iload_n (i := 1) d_Ha_wander_76 rfl rfl ?_
            refine r_iload d_Ha_wander_77 rfl ?_
            refine r_iast (b := 5) d_Ha_wander_79 (by decide) rfl hi_5 ?_
            exact rV_ret d_Ha_wander_80 rfl H
      · replace H := H.1 hc_35
        refine r_iconst d_Ha_wander_38 ic_1 ?_
        refine r_goto (tgt := 52) d_Ha_wander_39 (by decide) ?_
        refine r_iadd d_Ha_wander_52 ?_
        refine r_istore (lz := [some (.ref 3), some (.int a1), some (.int a2), some (.int ((hp.2.1 4 a1.toNatClampNeg) + (-1))), some (.int ((hp.2.1 5 a1.toNatClampNeg) + 1))]) d_Ha_wander_53 (by decide) rfl rfl ?_
        refine r_aload_n (i := 0) d_Ha_wander_55 rfl rfl ?_
        refine r_iload_n (i := 3) d_Ha_wander_56 rfl rfl ?_
        refine r_iload d_Ha_wander_57 rfl ?_
        refine rc_VI (b := 3) (d' := 1) [.int ((hp.2.1 4 a1.toNatClampNeg) + (-1)), .int ((hp.2.1 5 a1.toNatClampNeg) + 1)] [] d_Ha_wander_59 ml_Ha_41 rfl rfl (by decide) (by decide) rfl rfl (Nat.le_of_ble_eq_true rfl) H ?_
        intro r8 h7 H
        refine r_if_eq (tgt := 80) d_Ha_wander_62 (by decide) (fun hc_62 => ?_) (fun hc_62 => ?_)
        · replace H := H.1 hc_62
          exact rV_ret d_Ha_wander_80 rfl H
        · replace H := H.2 hc_62
          refine r_aload_n (i := 0) d_Ha_wander_65 rfl rfl ?_
          refine r_getR (b := 3) (r := 4) d_Ha_wander_66 fl_Ha_9 (by decide) rfl rfl rfl ?_
          refine r_iload_n (i := 1) d_Ha_wander_69 rfl rfl ?_
          refine r_iload_n (i := 3) d_Ha_wander_70 rfl rfl ?_
          refine r_iast (b := 4) d_Ha_wander_71 (by decide) rfl hi_5 ?_
          refine r_aload_n (i := 0) d_Ha_wander_72 rfl rfl ?_
          refine r_getR (b := 3) (r := 5) d_Ha_wander_73 fl_Ha_15 (by decide) rfl rfl rfl ?_
          refine r_iload_n (i := 1) d_Ha_wander_76 rfl rfl ?_
          refine r_iload d_Ha_wander_77 rfl ?_
          refine r_iast (b := 5) d_Ha_wander_79 (by decide) rfl hi_5 ?_
          exact rV_ret d_Ha_wander_80 rfl H
  · replace H := H.1 hc_8
    refine r_iconst d_Ha_wander_11 ic_1 ?_
    refine r_goto (tgt := 25) d_Ha_wander_12 (by decide) ?_
    refine r_iadd d_Ha_wander_25 ?_
    refine r_istore_n (i := 3) (lz := [some (.ref 3), some (.int a1), some (.int a2), some (.int ((hp.2.1 4 a1.toNatClampNeg) + 1)), none]) d_Ha_wander_26 rfl (by decide) rfl rfl ?_
    refine r_aload_n (i := 0) d_Ha_wander_27 rfl rfl ?_
    refine r_getR (b := 3) (r := 5) d_Ha_wander_28 fl_Ha_15 (by decide) rfl rfl rfl ?_
    refine r_iload_n (i := 1) d_Ha_wander_31 rfl rfl ?_
    refine r_iald (b := 5) (v := hp.2.1 5 a1.toNatClampNeg) d_Ha_wander_32 (by decide) rfl hi_5 rfl ?_
    refine r_iload_n (i := 2) d_Ha_wander_33 rfl rfl ?_
    refine r_iconst d_Ha_wander_34 ic_2 ?_
    refine r_icmp_ne (tgt := 42) d_Ha_wander_35 (by decide) (fun hc_35 => ?_) (fun hc_35 => ?_)
    · replace H := H.2 hc_35
      refine r_iload_n (i := 2) d_Ha_wander_42 rfl rfl ?_
      refine r_iconst d_Ha_wander_43 ic_4 ?_
      refine r_icmp_ne (tgt := 51) d_Ha_wander_44 (by decide) (fun hc_44 => ?_) (fun hc_44 => ?_)
      · replace H := H.2 hc_44
        refine r_iconst d_Ha_wander_51 ic_0 ?_
        refine r_iadd d_Ha_wander_52 ?_
        refine r_istore (lz := [some (.ref 3), some (.int a1), some (.int a2), some (.int ((hp.2.1 4 a1.toNatClampNeg) + 1)), some (.int ((hp.2.1 5 a1.toNatClampNeg) + 0))]) d_Ha_wander_53 (by decide) rfl rfl ?_
        refine r_aload_n (i := 0) d_Ha_wander_55 rfl rfl ?_
        refine r_iload_n (i := 3) d_Ha_wander_56 rfl rfl ?_
        refine r_iload d_Ha_wander_57 rfl ?_
        refine rc_VI (b := 3) (d' := 1) [.int ((hp.2.1 4 a1.toNatClampNeg) + 1), .int ((hp.2.1 5 a1.toNatClampNeg) + 0)] [] d_Ha_wander_59 ml_Ha_41 rfl rfl (by decide) (by decide) rfl rfl (Nat.le_of_ble_eq_true rfl) H ?_
        intro r6 h5 H
        refine r_if_eq (tgt := 80) d_Ha_wander_62 (by decide) (fun hc_62 => ?_) (fun hc_62 => ?_)
        · replace H := H.1 hc_62
          exact rV_ret d_Ha_wander_80 rfl H
        · replace H := H.2 hc_62
          refine r_aload_n (i := 0) d_Ha_wander_65 rfl rfl ?_
          refine r_getR (b := 3) (r := 4) d_Ha_wander_66 fl_Ha_9 (by decide) rfl rfl rfl ?_
          refine r_iload_n (i := 1) d_Ha_wander_69 rfl rfl ?_
          refine r_iload_n (i := 3) d_Ha_wander_70 rfl rfl ?_
          refine r_iast (b := 4) d_Ha_wander_71 (by decide) rfl hi_5 ?_
          refine r_aload_n (i := 0) d_Ha_wander_72 rfl rfl ?_
          refine r_getR (b := 3) (r := 5) d_Ha_wander_73 fl_Ha_15 (by decide) rfl rfl rfl ?_
          refine r_iload_n (i := 1) d_Ha_wander_76 rfl rfl ?_
          refine r_iload d_Ha_wander_77 rfl ?_
          refine r_iast (b := 5) d_Ha_wander_79 (by decide) rfl hi_5 ?_
          exact rV_ret d_Ha_wander_80 rfl H
      · replace H := H.1 hc_44
        refine r_iconst d_Ha_wander_47 ic_m1 ?_
        refine r_goto (tgt := 52) d_Ha_wander_48 (by decide) ?_
        refine r_iadd d_Ha_wander_52 ?_
        refine r_istore (lz := [some (.ref 3), some (.int a1), some (.int a2), some (.int ((hp.2.1 4 a1.toNatClampNeg) + 1)), some (.int ((hp.2.1 5 a1.toNatClampNeg) + (-1)))]) d_Ha_wander_53 (by decide) rfl rfl ?_
        refine r_aload_n (i := 0) d_Ha_wander_55 rfl rfl ?_
        refine r_iload_n (i := 3) d_Ha_wander_56 rfl rfl ?_
        refine r_iload d_Ha_wander_57 rfl ?_
        refine rc_VI (b := 3) (d' := 1) [.int ((hp.2.1 4 a1.toNatClampNeg) + 1), .int ((hp.2.1 5 a1.toNatClampNeg) + (-1))] [] d_Ha_wander_59 ml_Ha_41 rfl rfl (by decide) (by decide) rfl rfl (Nat.le_of_ble_eq_true rfl) H ?_
        intro r4 h3 H
        refine r_if_eq (tgt := 80) d_Ha_wander_62 (by decide) (fun hc_62 => ?_) (fun hc_62 => ?_)
        · replace H := H.1 hc_62
          exact rV_ret d_Ha_wander_80 rfl H
        · replace H := H.2 hc_62
          refine r_aload_n (i := 0) d_Ha_wander_65 rfl rfl ?_
          refine r_getR (b := 3) (r := 4) d_Ha_wander_66 fl_Ha_9 (by decide) rfl rfl rfl ?_
          refine r_iload_n (i := 1) d_Ha_wander_69 rfl rfl ?_
          refine r_iload_n (i := 3) d_Ha_wander_70 rfl rfl ?_
          refine r_iast (b := 4) d_Ha_wander_71 (by decide) rfl hi_5 ?_
          refine r_aload_n (i := 0) d_Ha_wander_72 rfl rfl ?_
          refine r_getR (b := 3) (r := 5) d_Ha_wander_73 fl_Ha_15 (by decide) rfl rfl rfl ?_
          refine r_iload_n (i := 1) d_Ha_wander_76 rfl rfl ?_
          refine r_iload d_Ha_wander_77 rfl ?_
          refine r_iast (b := 5) d_Ha_wander_79 (by decide) rfl hi_5 ?_
          exact rV_ret d_Ha_wander_80 rfl H
    · replace H := H.1 hc_35
      refine r_iconst d_Ha_wander_38 ic_1 ?_
      refine r_goto (tgt := 52) d_Ha_wander_39 (by decide) ?_
      refine r_iadd d_Ha_wander_52 ?_
      refine r_istore (lz := [some (.ref 3), some (.int a1), some (.int a2), some (.int ((hp.2.1 4 a1.toNatClampNeg) + 1)), some (.int ((hp.2.1 5 a1.toNatClampNeg) + 1))]) d_Ha_wander_53 (by decide) rfl rfl ?_
      refine r_aload_n (i := 0) d_Ha_wander_55 rfl rfl ?_
      refine r_iload_n (i := 3) d_Ha_wander_56 rfl rfl ?_
      refine r_iload d_Ha_wander_57 rfl ?_
      refine rc_VI (b := 3) (d' := 1) [.int ((hp.2.1 4 a1.toNatClampNeg) + 1), .int ((hp.2.1 5 a1.toNatClampNeg) + 1)] [] d_Ha_wander_59 ml_Ha_41 rfl rfl (by decide) (by decide) rfl rfl (Nat.le_of_ble_eq_true rfl) H ?_
      intro r2 h1 H
      refine r_if_eq (tgt := 80) d_Ha_wander_62 (by decide) (fun hc_62 => ?_) (fun hc_62 => ?_)
      · replace H := H.1 hc_62
        exact rV_ret d_Ha_wander_80 rfl H
      · replace H := H.2 hc_62
        refine r_aload_n (i := 0) d_Ha_wander_65 rfl rfl ?_
        refine r_getR (b := 3) (r := 4) d_Ha_wander_66 fl_Ha_9 (by decide) rfl rfl rfl ?_
        refine r_iload_n (i := 1) d_Ha_wander_69 rfl rfl ?_
        refine r_iload_n (i := 3) d_Ha_wander_70 rfl rfl ?_
        refine r_iast (b := 4) d_Ha_wander_71 (by decide) rfl hi_5 ?_
        refine r_aload_n (i := 0) d_Ha_wander_72 rfl rfl ?_
        refine r_getR (b := 3) (r := 5) d_Ha_wander_73 fl_Ha_15 (by decide) rfl rfl rfl ?_
        refine r_iload_n (i := 1) d_Ha_wander_76 rfl rfl ?_
        refine r_iload d_Ha_wander_77 rfl ?_
        refine r_iast (b := 5) d_Ha_wander_79 (by decide) rfl hi_5 ?_
        exact rV_ret d_Ha_wander_80 rfl H
set_option maxHeartbeats 4000000 in
set_option maxRecDepth 20000 in
theorem w_Ha_farFrom {G : rx_Gh} {hp : rx_Hp} {F : Int32 → rx_Hp → Prop} (a1 : Int32) (a2 : Int32) (a3 : Int32) (a4 : Int32) (H : vp_in a2 6 ∧ (Ev wC G 1 q_Ha_spot [.int a3, .int (hp.1 3 5), .int (hp.2.1 4 a2.toNatClampNeg)] hp (rI fun r2 h1 => vp_in a1 6 ∧ (Ev wC G 1 q_Ha_spot [.int a4, .int (h1.1 3 6), .int (h1.2.1 5 a2.toNatClampNeg)] h1 (rI fun r4 h3 => F (((r2 - (h1.2.1 4 a1.toNatClampNeg)) * (r2 - (h1.2.1 4 a1.toNatClampNeg))) + ((r4 - (h3.2.1 5 a1.toNatClampNeg)) * (r4 - (h3.2.1 5 a1.toNatClampNeg)))) h3))))) : Ev wC G 2 q_Ha_farFrom [.ref 3, .int a1, .int a2, .int a3, .int a4] hp (rI F) := by
  refine ev_of rfl (Nat.le_of_ble_eq_true rfl) rfl ?_
  show Rn wC G 2 q_Ha_farFrom 0 [some (.ref 3), some (.int a1), some (.int a2), some (.int a3), some (.int a4), none, none] [] hp (rI F)
  refine r_iload_n (i := 3) d_Ha_farFrom_0 rfl rfl ?_
  refine r_aload_n (i := 0) d_Ha_farFrom_1 rfl rfl ?_
  refine r_getI (b := 3) (v := hp.1 3 5) d_Ha_farFrom_2 fl_Ha_28 (by decide) rfl rfl rfl ?_
  refine r_aload_n (i := 0) d_Ha_farFrom_5 rfl rfl ?_
  refine r_getR (b := 3) (r := 4) d_Ha_farFrom_6 fl_Ha_9 (by decide) rfl rfl rfl ?_
  refine r_iload_n (i := 2) d_Ha_farFrom_9 rfl rfl ?_
  obtain ⟨hi_10, H⟩ := H
  refine r_iald (b := 4) (v := hp.2.1 4 a2.toNatClampNeg) d_Ha_farFrom_10 (by decide) rfl hi_10 rfl ?_
  refine rc_SI (d' := 1) [.int a3, .int (hp.1 3 5), .int (hp.2.1 4 a2.toNatClampNeg)] [] d_Ha_farFrom_11 ml_Ha_45 rfl rfl (by decide) (Nat.le_of_ble_eq_true rfl) H ?_
  intro r2 h1 H
  refine r_aload_n (i := 0) d_Ha_farFrom_14 rfl rfl ?_
  refine r_getR (b := 3) (r := 4) d_Ha_farFrom_15 fl_Ha_9 (by decide) rfl rfl rfl ?_
  refine r_iload_n (i := 1) d_Ha_farFrom_18 rfl rfl ?_
  obtain ⟨hi_19, H⟩ := H
  refine r_iald (b := 4) (v := h1.2.1 4 a1.toNatClampNeg) d_Ha_farFrom_19 (by decide) rfl hi_19 rfl ?_
  refine r_isub d_Ha_farFrom_20 ?_
  refine r_istore (lz := [some (.ref 3), some (.int a1), some (.int a2), some (.int a3), some (.int a4), some (.int (r2 - (h1.2.1 4 a1.toNatClampNeg))), none]) d_Ha_farFrom_21 (by decide) rfl rfl ?_
  refine r_iload d_Ha_farFrom_23 rfl ?_
  refine r_aload_n (i := 0) d_Ha_farFrom_25 rfl rfl ?_
  refine r_getI (b := 3) (v := h1.1 3 6) d_Ha_farFrom_26 fl_Ha_31 (by decide) rfl rfl rfl ?_
  refine r_aload_n (i := 0) d_Ha_farFrom_29 rfl rfl ?_
  refine r_getR (b := 3) (r := 5) d_Ha_farFrom_30 fl_Ha_15 (by decide) rfl rfl rfl ?_
  refine r_iload_n (i := 2) d_Ha_farFrom_33 rfl rfl ?_
  refine r_iald (b := 5) (v := h1.2.1 5 a2.toNatClampNeg) d_Ha_farFrom_34 (by decide) rfl hi_10 rfl ?_
  refine rc_SI (d' := 1) [.int a4, .int (h1.1 3 6), .int (h1.2.1 5 a2.toNatClampNeg)] [] d_Ha_farFrom_35 ml_Ha_45 rfl rfl (by decide) (Nat.le_of_ble_eq_true rfl) H ?_
  intro r4 h3 H
  refine r_aload_n (i := 0) d_Ha_farFrom_38 rfl rfl ?_
  refine r_getR (b := 3) (r := 5) d_Ha_farFrom_39 fl_Ha_15 (by decide) rfl rfl rfl ?_
  refine r_iload_n (i := 1) d_Ha_farFrom_42 rfl rfl ?_
  refine r_iald (b := 5) (v := h3.2.1 5 a1.toNatClampNeg) d_Ha_farFrom_43 (by decide) rfl hi_19 rfl ?_
  refine r_isub d_Ha_farFrom_44 ?_
  refine r_istore (lz := [some (.ref 3), some (.int a1), some (.int a2), some (.int a3), some (.int a4), some (.int (r2 - (h1.2.1 4 a1.toNatClampNeg))), some (.int (r4 - (h3.2.1 5 a1.toNatClampNeg)))]) d_Ha_farFrom_45 (by decide) rfl rfl ?_
  refine r_iload d_Ha_farFrom_47 rfl ?_
  refine r_iload d_Ha_farFrom_49 rfl ?_
  refine r_imul d_Ha_farFrom_51 ?_
  refine r_iload d_Ha_farFrom_52 rfl ?_
  refine r_iload d_Ha_farFrom_54 rfl ?_
  refine r_imul d_Ha_farFrom_56 ?_
  refine r_iadd d_Ha_farFrom_57 ?_
  exact rI_ret d_Ha_farFrom_58 rfl H
set_option maxHeartbeats 4000000 in
set_option maxRecDepth 20000 in
theorem w_Ha_writeTo {G : rx_Gh} {hp : rx_Hp} {F : rx_Hp → Prop} (a2 : Int32) (H : (a2 < 0 → F hp) ∧ (¬ a2 < 0 → ((a2 + 13) ≤ 13 → Rn wC G 1 q_Ha_writeTo 16 [some (.ref 3), some (.ref 39), some (.int a2), some (.int 0)] [] hp (rV F)) ∧ (¬ (a2 + 13) ≤ 13 → F hp))) : Ev wC G 1 q_Ha_writeTo [.ref 3, .ref 39, .int a2] hp (rV F) := by
  refine ev_of rfl (Nat.le_of_ble_eq_true rfl) rfl ?_
  show Rn wC G 1 q_Ha_writeTo 0 [some (.ref 3), some (.ref 39), some (.int a2), none] [] hp (rV F)
  refine r_iload_n (i := 2) d_Ha_writeTo_0 rfl rfl ?_
  refine r_if_lt (tgt := 13) d_Ha_writeTo_1 (by decide) (fun hc_1 => ?_) (fun hc_1 => ?_)
  · replace H := H.1 hc_1
    exact rV_ret d_Ha_writeTo_13 rfl H
  · replace H := H.2 hc_1
    refine r_iload_n (i := 2) d_Ha_writeTo_4 rfl rfl ?_
    refine r_bipush d_Ha_writeTo_5 bp_13 ?_
    refine r_iadd d_Ha_writeTo_7 ?_
    refine r_aload_n (i := 1) d_Ha_writeTo_8 rfl rfl ?_
    refine r_alen (b := 39) (n := 13) (v := 13) d_Ha_writeTo_9 (by decide) rfl al_13 ?_
    refine r_icmp_le (tgt := 14) d_Ha_writeTo_10 (by decide) (fun hc_10 => ?_) (fun hc_10 => ?_)
    · replace H := H.1 hc_10
      refine r_iconst d_Ha_writeTo_14 ic_0 ?_
      refine r_istore_n (i := 3) (lz := [some (.ref 3), some (.ref 39), some (.int a2), some (.int 0)]) d_Ha_writeTo_15 rfl (by decide) rfl rfl ?_
      exact H
    · replace H := H.2 hc_10
      exact rV_ret d_Ha_writeTo_13 rfl H
set_option maxHeartbeats 4000000 in
set_option maxRecDepth 20000 in
theorem w_Ha_writeTo_16 {G : rx_Gh} {hp : rx_Hp} {F : rx_Hp → Prop} (x2 : Int32) (x3 : Int32) (H : (6 ≤ x3 → vp_in ((x2 + 13) - 1) 13 ∧ (F (rx_pa hp 39 ((x2 + 13) - 1).toNatClampNeg (hp.1 3 7)))) ∧ (¬ 6 ≤ x3 → vp_in x3 6 ∧ (vp_in (x2 + (2 * x3)) 13 ∧ (vp_in ((x2 + (2 * x3)) + 1) 13 ∧ (Rn wC G 1 q_Ha_writeTo 16 [some (.ref 3), some (.ref 39), some (.int x2), some (.int (x3 + 1))] [] (rx_pa (rx_pa hp 39 (x2 + (2 * x3)).toNatClampNeg (hp.2.1 4 x3.toNatClampNeg)) 39 ((x2 + (2 * x3)) + 1).toNatClampNeg (hp.2.1 5 x3.toNatClampNeg)) (rV F)))))) : Rn wC G 1 q_Ha_writeTo 16 [some (.ref 3), some (.ref 39), some (.int x2), some (.int x3)] [] hp (rV F) := by
  refine r_iload_n (i := 3) d_Ha_writeTo_16 rfl rfl ?_
  refine r_bipush d_Ha_writeTo_17 bp_6 ?_
  refine r_icmp_ge (tgt := 56) d_Ha_writeTo_19 (by decide) (fun hc_19 => ?_) (fun hc_19 => ?_)
  · replace H := H.1 hc_19
    refine r_aload_n (i := 1) d_Ha_writeTo_56 rfl rfl ?_
    refine r_iload_n (i := 2) d_Ha_writeTo_57 rfl rfl ?_
    refine r_bipush d_Ha_writeTo_58 bp_13 ?_
    refine r_iadd d_Ha_writeTo_60 ?_
    refine r_iconst d_Ha_writeTo_61 ic_1 ?_
    refine r_isub d_Ha_writeTo_62 ?_
    refine r_aload_n (i := 0) d_Ha_writeTo_63 rfl rfl ?_
    refine r_getI (b := 3) (v := hp.1 3 7) d_Ha_writeTo_64 fl_Ha_34 (by decide) rfl rfl rfl ?_
    obtain ⟨hi_67, H⟩ := H
    refine r_iast (b := 39) d_Ha_writeTo_67 (by decide) rfl hi_67 ?_
    exact rV_ret d_Ha_writeTo_68 rfl H
  · replace H := H.2 hc_19
    refine r_aload_n (i := 1) d_Ha_writeTo_22 rfl rfl ?_
    refine r_iload_n (i := 2) d_Ha_writeTo_23 rfl rfl ?_
    refine r_iconst d_Ha_writeTo_24 ic_2 ?_
    refine r_iload_n (i := 3) d_Ha_writeTo_25 rfl rfl ?_
    refine r_imul d_Ha_writeTo_26 ?_
    refine r_iadd d_Ha_writeTo_27 ?_
    refine r_aload_n (i := 0) d_Ha_writeTo_28 rfl rfl ?_
    refine r_getR (b := 3) (r := 4) d_Ha_writeTo_29 fl_Ha_9 (by decide) rfl rfl rfl ?_
    refine r_iload_n (i := 3) d_Ha_writeTo_32 rfl rfl ?_
    obtain ⟨hi_33, H⟩ := H
    refine r_iald (b := 4) (v := hp.2.1 4 x3.toNatClampNeg) d_Ha_writeTo_33 (by decide) rfl hi_33 rfl ?_
    obtain ⟨hi_34, H⟩ := H
    refine r_iast (b := 39) d_Ha_writeTo_34 (by decide) rfl hi_34 ?_
    refine r_aload_n (i := 1) d_Ha_writeTo_35 rfl rfl ?_
    refine r_iload_n (i := 2) d_Ha_writeTo_36 rfl rfl ?_
    refine r_iconst d_Ha_writeTo_37 ic_2 ?_
    refine r_iload_n (i := 3) d_Ha_writeTo_38 rfl rfl ?_
    refine r_imul d_Ha_writeTo_39 ?_
    refine r_iadd d_Ha_writeTo_40 ?_
    refine r_iconst d_Ha_writeTo_41 ic_1 ?_
    refine r_iadd d_Ha_writeTo_42 ?_
    refine r_aload_n (i := 0) d_Ha_writeTo_43 rfl rfl ?_
    refine r_getR (b := 3) (r := 5) d_Ha_writeTo_44 fl_Ha_15 (by decide) rfl rfl rfl ?_
    refine r_iload_n (i := 3) d_Ha_writeTo_47 rfl rfl ?_
    refine r_iald (b := 5) (v := hp.2.1 5 x3.toNatClampNeg) d_Ha_writeTo_48 (by decide) rfl hi_33 rfl ?_
    obtain ⟨hi_49, H⟩ := H
    refine r_iast (b := 39) d_Ha_writeTo_49 (by decide) rfl hi_49 ?_
    refine r_iinc (v := x3 + 1) (lz := [some (.ref 3), some (.ref 39), some (.int x2), some (.int (x3 + 1))]) d_Ha_writeTo_50 rfl (by rw [ic_1]) (by decide) rfl rfl ?_
    refine r_goto (tgt := 16) d_Ha_writeTo_53 (by decide) ?_
    exact H
set_option maxHeartbeats 4000000 in
set_option maxRecDepth 20000 in
theorem w_Ha_readFrom {G : rx_Gh} {hp : rx_Hp} {F : rx_Hp → Prop} (a2 : Int32) (H : (a2 < 0 → F hp) ∧ (¬ a2 < 0 → ((a2 + 13) ≤ 13 → Rn wC G 1 q_Ha_readFrom 16 [some (.ref 3), some (.ref 39), some (.int a2), some (.int 0)] [] hp (rV F)) ∧ (¬ (a2 + 13) ≤ 13 → F hp))) : Ev wC G 1 q_Ha_readFrom [.ref 3, .ref 39, .int a2] hp (rV F) := by
  refine ev_of rfl (Nat.le_of_ble_eq_true rfl) rfl ?_
  show Rn wC G 1 q_Ha_readFrom 0 [some (.ref 3), some (.ref 39), some (.int a2), none] [] hp (rV F)
  refine r_iload_n (i := 2) d_Ha_readFrom_0 rfl rfl ?_
  refine r_if_lt (tgt := 13) d_Ha_readFrom_1 (by decide) (fun hc_1 => ?_) (fun hc_1 => ?_)
  · replace H := H.1 hc_1
    exact rV_ret d_Ha_readFrom_13 rfl H
  · replace H := H.2 hc_1
    refine r_iload_n (i := 2) d_Ha_readFrom_4 rfl rfl ?_
    refine r_bipush d_Ha_readFrom_5 bp_13 ?_
    refine r_iadd d_Ha_readFrom_7 ?_
    refine r_aload_n (i := 1) d_Ha_readFrom_8 rfl rfl ?_
    refine r_alen (b := 39) (n := 13) (v := 13) d_Ha_readFrom_9 (by decide) rfl al_13 ?_
    refine r_icmp_le (tgt := 14) d_Ha_readFrom_10 (by decide) (fun hc_10 => ?_) (fun hc_10 => ?_)
    · replace H := H.1 hc_10
      refine r_iconst d_Ha_readFrom_14 ic_0 ?_
      refine r_istore_n (i := 3) (lz := [some (.ref 3), some (.ref 39), some (.int a2), some (.int 0)]) d_Ha_readFrom_15 rfl (by decide) rfl rfl ?_
      exact H
    · replace H := H.2 hc_10
      exact rV_ret d_Ha_readFrom_13 rfl H
set_option maxHeartbeats 4000000 in
set_option maxRecDepth 20000 in
theorem w_Ha_readFrom_16 {G : rx_Gh} {hp : rx_Hp} {F : rx_Hp → Prop} (x2 : Int32) (x3 : Int32) (H : (6 ≤ x3 → vp_in ((x2 + 13) - 1) 13 ∧ (F (rx_pf hp 3 7 (hp.2.1 39 ((x2 + 13) - 1).toNatClampNeg)))) ∧ (¬ 6 ≤ x3 → vp_in (x2 + (2 * x3)) 13 ∧ (vp_in x3 6 ∧ (vp_in ((x2 + (2 * x3)) + 1) 13 ∧ (Rn wC G 1 q_Ha_readFrom 16 [some (.ref 3), some (.ref 39), some (.int x2), some (.int (x3 + 1))] [] (rx_pa (rx_pa hp 4 x3.toNatClampNeg (hp.2.1 39 (x2 + (2 * x3)).toNatClampNeg)) 5 x3.toNatClampNeg (hp.2.1 39 ((x2 + (2 * x3)) + 1).toNatClampNeg)) (rV F)))))) : Rn wC G 1 q_Ha_readFrom 16 [some (.ref 3), some (.ref 39), some (.int x2), some (.int x3)] [] hp (rV F) := by
  refine r_iload_n (i := 3) d_Ha_readFrom_16 rfl rfl ?_
  refine r_bipush d_Ha_readFrom_17 bp_6 ?_
  refine r_icmp_ge (tgt := 56) d_Ha_readFrom_19 (by decide) (fun hc_19 => ?_) (fun hc_19 => ?_)
  · replace H := H.1 hc_19
    refine r_aload_n (i := 0) d_Ha_readFrom_56 rfl rfl ?_
    refine r_aload_n (i := 1) d_Ha_readFrom_57 rfl rfl ?_
    refine r_iload_n (i := 2) d_Ha_readFrom_58 rfl rfl ?_
    refine r_bipush d_Ha_readFrom_59 bp_13 ?_
    refine r_iadd d_Ha_readFrom_61 ?_
    refine r_iconst d_Ha_readFrom_62 ic_1 ?_
    refine r_isub d_Ha_readFrom_63 ?_
    obtain ⟨hi_64, H⟩ := H
    refine r_iald (b := 39) (v := hp.2.1 39 ((x2 + 13) - 1).toNatClampNeg) d_Ha_readFrom_64 (by decide) rfl hi_64 rfl ?_
    refine r_putI (b := 3) d_Ha_readFrom_65 fp_Ha_34 ⟨rfl, rfl⟩ (by decide) rfl rfl ?_
    exact rV_ret d_Ha_readFrom_68 rfl H
  · replace H := H.2 hc_19
    refine r_aload_n (i := 0) d_Ha_readFrom_22 rfl rfl ?_
    refine r_getR (b := 3) (r := 4) d_Ha_readFrom_23 fl_Ha_9 (by decide) rfl rfl rfl ?_
    refine r_iload_n (i := 3) d_Ha_readFrom_26 rfl rfl ?_
    refine r_aload_n (i := 1) d_Ha_readFrom_27 rfl rfl ?_
    refine r_iload_n (i := 2) d_Ha_readFrom_28 rfl rfl ?_
    refine r_iconst d_Ha_readFrom_29 ic_2 ?_
    refine r_iload_n (i := 3) d_Ha_readFrom_30 rfl rfl ?_
    refine r_imul d_Ha_readFrom_31 ?_
    refine r_iadd d_Ha_readFrom_32 ?_
    obtain ⟨hi_33, H⟩ := H
    refine r_iald (b := 39) (v := hp.2.1 39 (x2 + (2 * x3)).toNatClampNeg) d_Ha_readFrom_33 (by decide) rfl hi_33 rfl ?_
    obtain ⟨hi_34, H⟩ := H
    refine r_iast (b := 4) d_Ha_readFrom_34 (by decide) rfl hi_34 ?_
    refine r_aload_n (i := 0) d_Ha_readFrom_35 rfl rfl ?_
    refine r_getR (b := 3) (r := 5) d_Ha_readFrom_36 fl_Ha_15 (by decide) rfl rfl rfl ?_
    refine r_iload_n (i := 3) d_Ha_readFrom_39 rfl rfl ?_
    refine r_aload_n (i := 1) d_Ha_readFrom_40 rfl rfl ?_
    refine r_iload_n (i := 2) d_Ha_readFrom_41 rfl rfl ?_
    refine r_iconst d_Ha_readFrom_42 ic_2 ?_
    refine r_iload_n (i := 3) d_Ha_readFrom_43 rfl rfl ?_
    refine r_imul d_Ha_readFrom_44 ?_
    refine r_iadd d_Ha_readFrom_45 ?_
    refine r_iconst d_Ha_readFrom_46 ic_1 ?_
    refine r_iadd d_Ha_readFrom_47 ?_
    obtain ⟨hi_48, H⟩ := H
    refine r_iald (b := 39) (v := hp.2.1 39 ((x2 + (2 * x3)) + 1).toNatClampNeg) d_Ha_readFrom_48 (by decide) rfl hi_48 rfl ?_
    refine r_iast (b := 5) d_Ha_readFrom_49 (by decide) rfl hi_34 ?_
    refine r_iinc (v := x3 + 1) (lz := [some (.ref 3), some (.ref 39), some (.int x2), some (.int (x3 + 1))]) d_Ha_readFrom_50 rfl (by rw [ic_1]) (by decide) rfl rfl ?_
    refine r_goto (tgt := 16) d_Ha_readFrom_53 (by decide) ?_
    exact H

/-! the constructors but the last -/
theorem d_Ta_init_0 : decode q_Ta_init.2.1 0 = .ok (.aload_n 0, 1) := by decide +kernel
theorem d_Ta_init_1 : decode q_Ta_init.2.1 1 = .ok (.invokespecial 3, 3) := by decide +kernel
theorem d_Ta_init_4 : decode q_Ta_init.2.1 4 = .ok (.aload_n 0, 1) := by decide +kernel
theorem d_Ta_init_5 : decode q_Ta_init.2.1 5 = .ok (.sipush 160, 3) := by decide +kernel
theorem d_Ta_init_8 : decode q_Ta_init.2.1 8 = .ok (.newarray .int, 2) := by decide +kernel
theorem d_Ta_init_10 : decode q_Ta_init.2.1 10 = .ok (.putfield 9, 3) := by decide +kernel
theorem pz_Ta_9 : rc_P "GlassRoom$Tape" 9 10 0 true (.array .int) := ⟨(RX10, TX10, 3), tyX10, rfl, by decide, (rx_s1 39 rfl rfl), rx_T10, tyX10_ok, nmX10, rfl, rfl, rfl⟩
theorem d_Ta_init_13 : decode q_Ta_init.2.1 13 = .ok (.return_, 1) := by decide +kernel
theorem d_Ha_init_0 : decode q_Ha_init.2.1 0 = .ok (.aload_n 0, 1) := by decide +kernel
theorem d_Ha_init_1 : decode q_Ha_init.2.1 1 = .ok (.invokespecial 3, 3) := by decide +kernel
theorem d_Ha_init_4 : decode q_Ha_init.2.1 4 = .ok (.aload_n 0, 1) := by decide +kernel
theorem d_Ha_init_5 : decode q_Ha_init.2.1 5 = .ok (.bipush 6, 2) := by decide +kernel
theorem d_Ha_init_7 : decode q_Ha_init.2.1 7 = .ok (.newarray .int, 2) := by decide +kernel
theorem d_Ha_init_9 : decode q_Ha_init.2.1 9 = .ok (.putfield 9, 3) := by decide +kernel
theorem pz_Ha_9 : rc_P "GlassRoom$Hall" 9 3 0 true (.array .int) := ⟨(RX3, TX3, 9), tyX3, rfl, by decide, (rx_s1 60 rfl rfl), rx_T3, tyX3_ok, nmX3, rfl, rfl, rfl⟩
theorem d_Ha_init_12 : decode q_Ha_init.2.1 12 = .ok (.aload_n 0, 1) := by decide +kernel
theorem d_Ha_init_13 : decode q_Ha_init.2.1 13 = .ok (.bipush 6, 2) := by decide +kernel
theorem d_Ha_init_15 : decode q_Ha_init.2.1 15 = .ok (.newarray .int, 2) := by decide +kernel
theorem d_Ha_init_17 : decode q_Ha_init.2.1 17 = .ok (.putfield 15, 3) := by decide +kernel
theorem pz_Ha_15 : rc_P "GlassRoom$Hall" 15 3 1 true (.array .int) := ⟨(RX3, TX3, 9), tyX3, rfl, by decide, (rx_s1 68 rfl rfl), rx_T3, tyX3_ok, nmX3, rfl, rfl, rfl⟩
theorem d_Ha_init_20 : decode q_Ha_init.2.1 20 = .ok (.aload_n 0, 1) := by decide +kernel
theorem d_Ha_init_21 : decode q_Ha_init.2.1 21 = .ok (.bipush 6, 2) := by decide +kernel
theorem d_Ha_init_23 : decode q_Ha_init.2.1 23 = .ok (.newarray .int, 2) := by decide +kernel
theorem d_Ha_init_25 : decode q_Ha_init.2.1 25 = .ok (.putfield 18, 3) := by decide +kernel
theorem pz_Ha_18 : rc_P "GlassRoom$Hall" 18 3 2 true (.array .int) := ⟨(RX3, TX3, 9), tyX3, rfl, by decide, (rx_s1 76 rfl rfl), rx_T3, tyX3_ok, nmX3, rfl, rfl, rfl⟩
theorem d_Ha_init_28 : decode q_Ha_init.2.1 28 = .ok (.aload_n 0, 1) := by decide +kernel
theorem d_Ha_init_29 : decode q_Ha_init.2.1 29 = .ok (.bipush 21, 2) := by decide +kernel
theorem d_Ha_init_31 : decode q_Ha_init.2.1 31 = .ok (.newarray .int, 2) := by decide +kernel
theorem d_Ha_init_33 : decode q_Ha_init.2.1 33 = .ok (.putfield 21, 3) := by decide +kernel
theorem pz_Ha_21 : rc_P "GlassRoom$Hall" 21 3 3 true (.array .int) := ⟨(RX3, TX3, 9), tyX3, rfl, by decide, (rx_s1 79 rfl rfl), rx_T3, tyX3_ok, nmX3, rfl, rfl, rfl⟩
theorem d_Ha_init_36 : decode q_Ha_init.2.1 36 = .ok (.return_, 1) := by decide +kernel
theorem d_Li_init_0 : decode q_Li_init.2.1 0 = .ok (.aload_n 0, 1) := by decide +kernel
theorem d_Li_init_1 : decode q_Li_init.2.1 1 = .ok (.invokespecial 3, 3) := by decide +kernel
theorem d_Li_init_4 : decode q_Li_init.2.1 4 = .ok (.aload_n 0, 1) := by decide +kernel
theorem d_Li_init_5 : decode q_Li_init.2.1 5 = .ok (.sipush 160, 3) := by decide +kernel
theorem d_Li_init_8 : decode q_Li_init.2.1 8 = .ok (.newarray .int, 2) := by decide +kernel
theorem d_Li_init_10 : decode q_Li_init.2.1 10 = .ok (.putfield 9, 3) := by decide +kernel
theorem pz_Li_9 : rc_P "GlassRoom$Light" 9 6 0 true (.array .int) := ⟨(RX6, TX6, 3), tyX6, rfl, by decide, (rx_s1 164 rfl rfl), rx_T6, tyX6_ok, nmX6, rfl, rfl, rfl⟩
theorem d_Li_init_13 : decode q_Li_init.2.1 13 = .ok (.aload_n 0, 1) := by decide +kernel
theorem d_Li_init_14 : decode q_Li_init.2.1 14 = .ok (.sipush 160, 3) := by decide +kernel
theorem d_Li_init_17 : decode q_Li_init.2.1 17 = .ok (.newarray .int, 2) := by decide +kernel
theorem d_Li_init_19 : decode q_Li_init.2.1 19 = .ok (.putfield 15, 3) := by decide +kernel
theorem pz_Li_15 : rc_P "GlassRoom$Light" 15 6 1 true (.array .int) := ⟨(RX6, TX6, 3), tyX6, rfl, by decide, (rx_s1 165 rfl rfl), rx_T6, tyX6_ok, nmX6, rfl, rfl, rfl⟩
theorem d_Li_init_22 : decode q_Li_init.2.1 22 = .ok (.return_, 1) := by decide +kernel
theorem d_Ac_init_0 : decode q_Ac_init.2.1 0 = .ok (.aload_n 0, 1) := by decide +kernel
theorem d_Ac_init_1 : decode q_Ac_init.2.1 1 = .ok (.invokespecial 3, 3) := by decide +kernel
theorem d_Ac_init_4 : decode q_Ac_init.2.1 4 = .ok (.aload_n 0, 1) := by decide +kernel
theorem d_Ac_init_5 : decode q_Ac_init.2.1 5 = .ok (.sipush 520, 3) := by decide +kernel
theorem d_Ac_init_8 : decode q_Ac_init.2.1 8 = .ok (.newarray .int, 2) := by decide +kernel
theorem d_Ac_init_10 : decode q_Ac_init.2.1 10 = .ok (.putfield 11, 3) := by decide +kernel
theorem pz_Ac_11 : rc_P "GlassRoom$Acts" 11 0 0 true (.array .int) := ⟨(RX0, TX0, 3), tyX0, rfl, by decide, (rx_s1 191 rfl rfl), rx_T0, tyX0_ok, nmX0, rfl, rfl, rfl⟩
theorem d_Ac_init_13 : decode q_Ac_init.2.1 13 = .ok (.return_, 1) := by decide +kernel
theorem d_Di_init_0 : decode q_Di_init.2.1 0 = .ok (.aload_n 0, 1) := by decide +kernel
theorem d_Di_init_1 : decode q_Di_init.2.1 1 = .ok (.invokespecial 3, 3) := by decide +kernel
theorem d_Di_init_4 : decode q_Di_init.2.1 4 = .ok (.aload_n 0, 1) := by decide +kernel
theorem d_Di_init_5 : decode q_Di_init.2.1 5 = .ok (.bipush 21, 2) := by decide +kernel
theorem d_Di_init_7 : decode q_Di_init.2.1 7 = .ok (.newarray .int, 2) := by decide +kernel
theorem d_Di_init_9 : decode q_Di_init.2.1 9 = .ok (.putfield 9, 3) := by decide +kernel
theorem pz_Di_9 : rc_P "GlassRoom$Distances" 9 2 1 true (.array .int) := ⟨(RX2, TX2, 10), tyX2, rfl, by decide, (rx_s1 209 rfl rfl), rx_T2, tyX2_ok, nmX2, rfl, rfl, rfl⟩
theorem d_Di_init_12 : decode q_Di_init.2.1 12 = .ok (.aload_n 0, 1) := by decide +kernel
theorem d_Di_init_13 : decode q_Di_init.2.1 13 = .ok (.bipush 21, 2) := by decide +kernel
theorem d_Di_init_15 : decode q_Di_init.2.1 15 = .ok (.newarray .int, 2) := by decide +kernel
theorem d_Di_init_17 : decode q_Di_init.2.1 17 = .ok (.putfield 15, 3) := by decide +kernel
theorem pz_Di_15 : rc_P "GlassRoom$Distances" 15 2 2 true (.array .int) := ⟨(RX2, TX2, 10), tyX2, rfl, by decide, (rx_s1 210 rfl rfl), rx_T2, tyX2_ok, nmX2, rfl, rfl, rfl⟩
theorem d_Di_init_20 : decode q_Di_init.2.1 20 = .ok (.aload_n 0, 1) := by decide +kernel
theorem d_Di_init_21 : decode q_Di_init.2.1 21 = .ok (.aload_n 1, 1) := by decide +kernel
theorem d_Di_init_22 : decode q_Di_init.2.1 22 = .ok (.putfield 18, 3) := by decide +kernel
theorem pz_Di_18 : rc_P "GlassRoom$Distances" 18 2 0 true (.object "GlassRoom$Hall") := ⟨(RX2, TX2, 10), tyX2, rfl, by decide, (rx_s1 208 rfl rfl), rx_T2, tyX2_ok, nmX2, rfl, rfl, rfl⟩
theorem d_Di_init_25 : decode q_Di_init.2.1 25 = .ok (.return_, 1) := by decide +kernel
theorem d_Si_init_0 : decode q_Si_init.2.1 0 = .ok (.aload_n 0, 1) := by decide +kernel
theorem d_Si_init_1 : decode q_Si_init.2.1 1 = .ok (.invokespecial 3, 3) := by decide +kernel
theorem d_Si_init_4 : decode q_Si_init.2.1 4 = .ok (.aload_n 0, 1) := by decide +kernel
theorem d_Si_init_5 : decode q_Si_init.2.1 5 = .ok (.aload_n 1, 1) := by decide +kernel
theorem d_Si_init_6 : decode q_Si_init.2.1 6 = .ok (.putfield 9, 3) := by decide +kernel
theorem pz_Si_9 : rc_P "GlassRoom$Sight" 9 9 0 true (.object "GlassRoom$Hall") := ⟨(RX9, TX9, 9), tyX9, rfl, by decide, (rx_s2 12 rfl rfl), rx_T9, tyX9_ok, nmX9, rfl, rfl, rfl⟩
theorem d_Si_init_9 : decode q_Si_init.2.1 9 = .ok (.return_, 1) := by decide +kernel
theorem d_Ba_init_0 : decode q_Ba_init.2.1 0 = .ok (.aload_n 0, 1) := by decide +kernel
theorem d_Ba_init_1 : decode q_Ba_init.2.1 1 = .ok (.invokespecial 3, 3) := by decide +kernel
theorem d_Ba_init_4 : decode q_Ba_init.2.1 4 = .ok (.aload_n 0, 1) := by decide +kernel
theorem d_Ba_init_5 : decode q_Ba_init.2.1 5 = .ok (.bipush 40, 2) := by decide +kernel
theorem d_Ba_init_7 : decode q_Ba_init.2.1 7 = .ok (.newarray .int, 2) := by decide +kernel
theorem d_Ba_init_9 : decode q_Ba_init.2.1 9 = .ok (.putfield 9, 3) := by decide +kernel
theorem pz_Ba_9 : rc_P "GlassRoom$Ball" 9 1 1 true (.array .int) := ⟨(RX1, TX1, 4), tyX1, rfl, by decide, (rx_s2 47 rfl rfl), rx_T1, tyX1_ok, nmX1, rfl, rfl, rfl⟩
theorem d_Ba_init_12 : decode q_Ba_init.2.1 12 = .ok (.aload_n 0, 1) := by decide +kernel
theorem d_Ba_init_13 : decode q_Ba_init.2.1 13 = .ok (.aload_n 1, 1) := by decide +kernel
theorem d_Ba_init_14 : decode q_Ba_init.2.1 14 = .ok (.putfield 15, 3) := by decide +kernel
theorem pz_Ba_15 : rc_P "GlassRoom$Ball" 15 1 0 true (.object "GlassRoom$Hall") := ⟨(RX1, TX1, 4), tyX1, rfl, by decide, (rx_s2 46 rfl rfl), rx_T1, tyX1_ok, nmX1, rfl, rfl, rfl⟩
theorem d_Ba_init_17 : decode q_Ba_init.2.1 17 = .ok (.return_, 1) := by decide +kernel
theorem d_Hg_init_0 : decode q_Hg_init.2.1 0 = .ok (.aload_n 0, 1) := by decide +kernel
theorem d_Hg_init_1 : decode q_Hg_init.2.1 1 = .ok (.invokespecial 1, 3) := by decide +kernel
theorem d_Hg_init_4 : decode q_Hg_init.2.1 4 = .ok (.aload_n 0, 1) := by decide +kernel
theorem d_Hg_init_5 : decode q_Hg_init.2.1 5 = .ok (.aload_n 1, 1) := by decide +kernel
theorem d_Hg_init_6 : decode q_Hg_init.2.1 6 = .ok (.putfield 7, 3) := by decide +kernel
theorem pz_Hg_7 : rc_P "GlassRoom$Hanger" 7 5 0 true (.object "GlassRoom$Hall") := ⟨(RX5, TX5, 3), tyX5, rfl, by decide, (rx_s2 67 rfl rfl), rx_T5, tyX5_ok, nmX5, rfl, rfl, rfl⟩
theorem d_Hg_init_9 : decode q_Hg_init.2.1 9 = .ok (.return_, 1) := by decide +kernel
theorem d_Ph_init_0 : decode q_Ph_init.2.1 0 = .ok (.aload_n 0, 1) := by decide +kernel
theorem d_Ph_init_1 : decode q_Ph_init.2.1 1 = .ok (.invokespecial 3, 3) := by decide +kernel
theorem d_Ph_init_4 : decode q_Ph_init.2.1 4 = .ok (.aload_n 0, 1) := by decide +kernel
theorem d_Ph_init_5 : decode q_Ph_init.2.1 5 = .ok (.bipush 12, 2) := by decide +kernel
theorem d_Ph_init_7 : decode q_Ph_init.2.1 7 = .ok (.newarray .int, 2) := by decide +kernel
theorem d_Ph_init_9 : decode q_Ph_init.2.1 9 = .ok (.putfield 9, 3) := by decide +kernel
theorem pz_Ph_9 : rc_P "GlassRoom$Photos" 9 8 1 true (.array .int) := ⟨(RX8, TX8, 4), tyX8, rfl, by decide, (rx_s2 86 rfl rfl), rx_T8, tyX8_ok, nmX8, rfl, rfl, rfl⟩
theorem d_Ph_init_12 : decode q_Ph_init.2.1 12 = .ok (.aload_n 0, 1) := by decide +kernel
theorem d_Ph_init_13 : decode q_Ph_init.2.1 13 = .ok (.bipush 12, 2) := by decide +kernel
theorem d_Ph_init_15 : decode q_Ph_init.2.1 15 = .ok (.newarray .int, 2) := by decide +kernel
theorem d_Ph_init_17 : decode q_Ph_init.2.1 17 = .ok (.putfield 15, 3) := by decide +kernel
theorem pz_Ph_15 : rc_P "GlassRoom$Photos" 15 8 2 true (.array .int) := ⟨(RX8, TX8, 4), tyX8, rfl, by decide, (rx_s2 87 rfl rfl), rx_T8, tyX8_ok, nmX8, rfl, rfl, rfl⟩
theorem d_Ph_init_20 : decode q_Ph_init.2.1 20 = .ok (.aload_n 0, 1) := by decide +kernel
theorem d_Ph_init_21 : decode q_Ph_init.2.1 21 = .ok (.aload_n 1, 1) := by decide +kernel
theorem d_Ph_init_22 : decode q_Ph_init.2.1 22 = .ok (.putfield 18, 3) := by decide +kernel
theorem pz_Ph_18 : rc_P "GlassRoom$Photos" 18 8 0 true (.object "GlassRoom$Hall") := ⟨(RX8, TX8, 4), tyX8, rfl, by decide, (rx_s2 85 rfl rfl), rx_T8, tyX8_ok, nmX8, rfl, rfl, rfl⟩
theorem d_Ph_init_25 : decode q_Ph_init.2.1 25 = .ok (.return_, 1) := by decide +kernel
theorem d_HR_init_0 : decode q_HR_init.2.1 0 = .ok (.aload_n 0, 1) := by decide +kernel
theorem d_HR_init_1 : decode q_HR_init.2.1 1 = .ok (.invokespecial 3, 3) := by decide +kernel
theorem d_HR_init_4 : decode q_HR_init.2.1 4 = .ok (.aload_n 0, 1) := by decide +kernel
theorem d_HR_init_5 : decode q_HR_init.2.1 5 = .ok (.getstatic 9, 3) := by decide +kernel
theorem d_HR_init_8 : decode q_HR_init.2.1 8 = .ok (.arraylength, 1) := by decide +kernel
theorem d_HR_init_9 : decode q_HR_init.2.1 9 = .ok (.newarray .int, 2) := by decide +kernel
theorem d_HR_init_11 : decode q_HR_init.2.1 11 = .ok (.putfield 15, 3) := by decide +kernel
theorem pz_HR_15 : rc_P "GlassRoom$HallReader" 15 4 1 true (.array .int) := ⟨(RX4, TX4, 4), tyX4, rfl, by decide, (rx_s1 139 rfl rfl), rx_T4, tyX4_ok, nmX4, rfl, rfl, rfl⟩
theorem d_HR_init_14 : decode q_HR_init.2.1 14 = .ok (.aload_n 0, 1) := by decide +kernel
theorem d_HR_init_15 : decode q_HR_init.2.1 15 = .ok (.new 18, 3) := by decide +kernel
theorem nz_HR_18 : rc_N "GlassRoom$HallReader" 18 3 9 [.null, .null, .null, .null, .int 0, .int 0, .int 0, .int 0, .int 0] := ⟨RX3, TX3, tyX3, rfl, rx_T3, tyX3_ok, (rx_s1 136 rfl rfl), (rx_s1 55 rfl rfl), (rx_s1 3 rfl rfl), by decide⟩
theorem d_HR_init_18 : decode q_HR_init.2.1 18 = .ok (.dup, 1) := by decide +kernel
theorem d_HR_init_19 : decode q_HR_init.2.1 19 = .ok (.invokespecial 20, 3) := by decide +kernel
theorem cz_HR_20 : rc_C "GlassRoom$HallReader" 20 q_Ha_init 0 := ⟨⟨Or.inr (List.mem_of_getElem? (i := 2) rfl), (rx_s1 57 rfl rfl), rfl, rfl⟩, (rx_s1 3 rfl rfl), q_Ha_init_k, ⟨by decide, by decide, by decide +kernel⟩, by decide⟩
theorem d_HR_init_22 : decode q_HR_init.2.1 22 = .ok (.putfield 21, 3) := by decide +kernel
theorem pz_HR_21 : rc_P "GlassRoom$HallReader" 21 4 2 true (.object "GlassRoom$Hall") := ⟨(RX4, TX4, 4), tyX4, rfl, by decide, (rx_s1 140 rfl rfl), rx_T4, tyX4_ok, nmX4, rfl, rfl, rfl⟩
theorem d_HR_init_25 : decode q_HR_init.2.1 25 = .ok (.aload_n 0, 1) := by decide +kernel
theorem d_HR_init_26 : decode q_HR_init.2.1 26 = .ok (.aload_n 1, 1) := by decide +kernel
theorem d_HR_init_27 : decode q_HR_init.2.1 27 = .ok (.putfield 25, 3) := by decide +kernel
theorem pz_HR_25 : rc_P "GlassRoom$HallReader" 25 4 0 true (.object "GlassRoom$Tape") := ⟨(RX4, TX4, 4), tyX4, rfl, by decide, (rx_s1 138 rfl rfl), rx_T4, tyX4_ok, nmX4, rfl, rfl, rfl⟩
theorem d_HR_init_30 : decode q_HR_init.2.1 30 = .ok (.return_, 1) := by decide +kernel
theorem d_LR_init_0 : decode q_LR_init.2.1 0 = .ok (.aload_n 0, 1) := by decide +kernel
theorem d_LR_init_1 : decode q_LR_init.2.1 1 = .ok (.invokespecial 3, 3) := by decide +kernel
theorem d_LR_init_4 : decode q_LR_init.2.1 4 = .ok (.aload_n 0, 1) := by decide +kernel
theorem d_LR_init_5 : decode q_LR_init.2.1 5 = .ok (.aload_n 1, 1) := by decide +kernel
theorem d_LR_init_6 : decode q_LR_init.2.1 6 = .ok (.putfield 9, 3) := by decide +kernel
theorem pz_LR_9 : rc_P "GlassRoom$LightReader" 9 7 0 true (.object "GlassRoom$Tape") := ⟨(RX7, TX7, 2), tyX7, rfl, by decide, (rx_s1 175 rfl rfl), rx_T7, tyX7_ok, nmX7, rfl, rfl, rfl⟩
theorem d_LR_init_9 : decode q_LR_init.2.1 9 = .ok (.aload_n 0, 1) := by decide +kernel
theorem d_LR_init_10 : decode q_LR_init.2.1 10 = .ok (.new 15, 3) := by decide +kernel
theorem nz_LR_15 : rc_N "GlassRoom$LightReader" 15 6 3 [.null, .null, .int 0] := ⟨RX6, TX6, tyX6, rfl, rx_T6, tyX6_ok, (rx_s1 158 rfl rfl), (rx_s1 159 rfl rfl), (rx_s1 6 rfl rfl), by decide⟩
theorem d_LR_init_13 : decode q_LR_init.2.1 13 = .ok (.dup, 1) := by decide +kernel
theorem d_LR_init_14 : decode q_LR_init.2.1 14 = .ok (.invokespecial 17, 3) := by decide +kernel
theorem cz_LR_17 : rc_C "GlassRoom$LightReader" 17 q_Li_init 0 := ⟨⟨Or.inr (List.mem_of_getElem? (i := 3) rfl), (rx_s1 161 rfl rfl), rfl, rfl⟩, (rx_s1 6 rfl rfl), q_Li_init_k, ⟨by decide, by decide, by decide +kernel⟩, by decide⟩
theorem d_LR_init_17 : decode q_LR_init.2.1 17 = .ok (.putfield 18, 3) := by decide +kernel
theorem pz_LR_18 : rc_P "GlassRoom$LightReader" 18 7 1 false (.object "GlassRoom$Light") := ⟨(RX7, TX7, 2), tyX7, rfl, by decide, (rx_s1 176 rfl rfl), rx_T7, tyX7_ok, nmX7, rfl, rfl, rfl⟩
theorem d_LR_init_20 : decode q_LR_init.2.1 20 = .ok (.return_, 1) := by decide +kernel
theorem d_M_init_0 : decode q_M_init.2.1 0 = .ok (.aload_n 0, 1) := by decide +kernel
theorem d_M_init_1 : decode q_M_init.2.1 1 = .ok (.invokespecial 3, 3) := by decide +kernel
theorem d_M_init_4 : decode q_M_init.2.1 4 = .ok (.aload_n 0, 1) := by decide +kernel
theorem d_M_init_5 : decode q_M_init.2.1 5 = .ok (.sipush 160, 3) := by decide +kernel
theorem d_M_init_8 : decode q_M_init.2.1 8 = .ok (.newarray .int, 2) := by decide +kernel
theorem d_M_init_10 : decode q_M_init.2.1 10 = .ok (.putfield 9, 3) := by decide +kernel
theorem pz_M_9 : rc_P "GlassRoomModel" 9 12 1 true (.array .int) := ⟨(RX12, TX12, 45), tyX12, rfl, by decide, (rx_s5 100 rfl rfl), rx_T12, tyX12_ok, nmX12, rfl, rfl, rfl⟩
theorem d_M_init_13 : decode q_M_init.2.1 13 = .ok (.aload_n 0, 1) := by decide +kernel
theorem d_M_init_14 : decode q_M_init.2.1 14 = .ok (.sipush 1700, 3) := by decide +kernel
theorem d_M_init_17 : decode q_M_init.2.1 17 = .ok (.newarray .int, 2) := by decide +kernel
theorem d_M_init_19 : decode q_M_init.2.1 19 = .ok (.putfield 13, 3) := by decide +kernel
theorem pz_M_13 : rc_P "GlassRoomModel" 13 12 6 true (.array .int) := ⟨(RX12, TX12, 45), tyX12, rfl, by decide, (rx_s5 105 rfl rfl), rx_T12, tyX12_ok, nmX12, rfl, rfl, rfl⟩
theorem d_M_init_22 : decode q_M_init.2.1 22 = .ok (.aload_n 0, 1) := by decide +kernel
theorem d_M_init_23 : decode q_M_init.2.1 23 = .ok (.sipush 1700, 3) := by decide +kernel
theorem d_M_init_26 : decode q_M_init.2.1 26 = .ok (.newarray .int, 2) := by decide +kernel
theorem d_M_init_28 : decode q_M_init.2.1 28 = .ok (.putfield 16, 3) := by decide +kernel
theorem pz_M_16 : rc_P "GlassRoomModel" 16 12 7 true (.array .int) := ⟨(RX12, TX12, 45), tyX12, rfl, by decide, (rx_s5 106 rfl rfl), rx_T12, tyX12_ok, nmX12, rfl, rfl, rfl⟩
theorem d_M_init_31 : decode q_M_init.2.1 31 = .ok (.aload_n 0, 1) := by decide +kernel
theorem d_M_init_32 : decode q_M_init.2.1 32 = .ok (.iconst 5, 1) := by decide +kernel
theorem d_M_init_33 : decode q_M_init.2.1 33 = .ok (.newarray .int, 2) := by decide +kernel
theorem d_M_init_35 : decode q_M_init.2.1 35 = .ok (.putfield 19, 3) := by decide +kernel
theorem pz_M_19 : rc_P "GlassRoomModel" 19 12 8 true (.array .int) := ⟨(RX12, TX12, 45), tyX12, rfl, by decide, (rx_s5 107 rfl rfl), rx_T12, tyX12_ok, nmX12, rfl, rfl, rfl⟩
theorem d_M_init_38 : decode q_M_init.2.1 38 = .ok (.aload_n 0, 1) := by decide +kernel
theorem d_M_init_39 : decode q_M_init.2.1 39 = .ok (.iconst 5, 1) := by decide +kernel
theorem d_M_init_40 : decode q_M_init.2.1 40 = .ok (.newarray .int, 2) := by decide +kernel
theorem d_M_init_42 : decode q_M_init.2.1 42 = .ok (.putfield 22, 3) := by decide +kernel
theorem pz_M_22 : rc_P "GlassRoomModel" 22 12 9 true (.array .int) := ⟨(RX12, TX12, 45), tyX12, rfl, by decide, (rx_s5 108 rfl rfl), rx_T12, tyX12_ok, nmX12, rfl, rfl, rfl⟩
theorem d_M_init_45 : decode q_M_init.2.1 45 = .ok (.aload_n 0, 1) := by decide +kernel
theorem d_M_init_46 : decode q_M_init.2.1 46 = .ok (.sipush 450, 3) := by decide +kernel
theorem d_M_init_49 : decode q_M_init.2.1 49 = .ok (.newarray .int, 2) := by decide +kernel
theorem d_M_init_51 : decode q_M_init.2.1 51 = .ok (.putfield 25, 3) := by decide +kernel
theorem pz_M_25 : rc_P "GlassRoomModel" 25 12 10 true (.array .int) := ⟨(RX12, TX12, 45), tyX12, rfl, by decide, (rx_s5 109 rfl rfl), rx_T12, tyX12_ok, nmX12, rfl, rfl, rfl⟩
theorem d_M_init_54 : decode q_M_init.2.1 54 = .ok (.aload_n 0, 1) := by decide +kernel
theorem d_M_init_55 : decode q_M_init.2.1 55 = .ok (.sipush 450, 3) := by decide +kernel
theorem d_M_init_58 : decode q_M_init.2.1 58 = .ok (.newarray .int, 2) := by decide +kernel
theorem d_M_init_60 : decode q_M_init.2.1 60 = .ok (.putfield 28, 3) := by decide +kernel
theorem pz_M_28 : rc_P "GlassRoomModel" 28 12 11 true (.array .int) := ⟨(RX12, TX12, 45), tyX12, rfl, by decide, (rx_s5 110 rfl rfl), rx_T12, tyX12_ok, nmX12, rfl, rfl, rfl⟩
theorem d_M_init_63 : decode q_M_init.2.1 63 = .ok (.aload_n 0, 1) := by decide +kernel
theorem d_M_init_64 : decode q_M_init.2.1 64 = .ok (.sipush 450, 3) := by decide +kernel
theorem d_M_init_67 : decode q_M_init.2.1 67 = .ok (.newarray .int, 2) := by decide +kernel
theorem d_M_init_69 : decode q_M_init.2.1 69 = .ok (.putfield 31, 3) := by decide +kernel
theorem pz_M_31 : rc_P "GlassRoomModel" 31 12 12 true (.array .int) := ⟨(RX12, TX12, 45), tyX12, rfl, by decide, (rx_s5 111 rfl rfl), rx_T12, tyX12_ok, nmX12, rfl, rfl, rfl⟩
theorem d_M_init_72 : decode q_M_init.2.1 72 = .ok (.aload_n 0, 1) := by decide +kernel
theorem d_M_init_73 : decode q_M_init.2.1 73 = .ok (.bipush 6, 2) := by decide +kernel
theorem d_M_init_75 : decode q_M_init.2.1 75 = .ok (.newarray .int, 2) := by decide +kernel
theorem d_M_init_77 : decode q_M_init.2.1 77 = .ok (.putfield 34, 3) := by decide +kernel
theorem pz_M_34 : rc_P "GlassRoomModel" 34 12 15 true (.array .int) := ⟨(RX12, TX12, 45), tyX12, rfl, by decide, (rx_s5 114 rfl rfl), rx_T12, tyX12_ok, nmX12, rfl, rfl, rfl⟩
theorem d_M_init_80 : decode q_M_init.2.1 80 = .ok (.aload_n 0, 1) := by decide +kernel
theorem d_M_init_81 : decode q_M_init.2.1 81 = .ok (.bipush 80, 2) := by decide +kernel
theorem d_M_init_83 : decode q_M_init.2.1 83 = .ok (.newarray .int, 2) := by decide +kernel
theorem d_M_init_85 : decode q_M_init.2.1 85 = .ok (.putfield 37, 3) := by decide +kernel
theorem pz_M_37 : rc_P "GlassRoomModel" 37 12 16 true (.array .int) := ⟨(RX12, TX12, 45), tyX12, rfl, by decide, (rx_s5 115 rfl rfl), rx_T12, tyX12_ok, nmX12, rfl, rfl, rfl⟩
theorem d_M_init_88 : decode q_M_init.2.1 88 = .ok (.aload_n 0, 1) := by decide +kernel
theorem d_M_init_89 : decode q_M_init.2.1 89 = .ok (.iconst 4, 1) := by decide +kernel
theorem d_M_init_90 : decode q_M_init.2.1 90 = .ok (.newarray .int, 2) := by decide +kernel
theorem d_M_init_92 : decode q_M_init.2.1 92 = .ok (.putfield 40, 3) := by decide +kernel
theorem pz_M_40 : rc_P "GlassRoomModel" 40 12 17 true (.array .int) := ⟨(RX12, TX12, 45), tyX12, rfl, by decide, (rx_s5 116 rfl rfl), rx_T12, tyX12_ok, nmX12, rfl, rfl, rfl⟩
theorem d_M_init_95 : decode q_M_init.2.1 95 = .ok (.aload_n 0, 1) := by decide +kernel
theorem d_M_init_96 : decode q_M_init.2.1 96 = .ok (.bipush 18, 2) := by decide +kernel
theorem d_M_init_98 : decode q_M_init.2.1 98 = .ok (.newarray .int, 2) := by decide +kernel
theorem d_M_init_100 : decode q_M_init.2.1 100 = .ok (.putfield 43, 3) := by decide +kernel
theorem pz_M_43 : rc_P "GlassRoomModel" 43 12 18 true (.array .int) := ⟨(RX12, TX12, 45), tyX12, rfl, by decide, (rx_s5 117 rfl rfl), rx_T12, tyX12_ok, nmX12, rfl, rfl, rfl⟩
theorem d_M_init_103 : decode q_M_init.2.1 103 = .ok (.aload_n 0, 1) := by decide +kernel
theorem d_M_init_104 : decode q_M_init.2.1 104 = .ok (.bipush 6, 2) := by decide +kernel
theorem d_M_init_106 : decode q_M_init.2.1 106 = .ok (.newarray .int, 2) := by decide +kernel
theorem d_M_init_108 : decode q_M_init.2.1 108 = .ok (.putfield 46, 3) := by decide +kernel
theorem pz_M_46 : rc_P "GlassRoomModel" 46 12 20 true (.array .int) := ⟨(RX12, TX12, 45), tyX12, rfl, by decide, (rx_s5 119 rfl rfl), rx_T12, tyX12_ok, nmX12, rfl, rfl, rfl⟩
theorem d_M_init_111 : decode q_M_init.2.1 111 = .ok (.aload_n 0, 1) := by decide +kernel
theorem d_M_init_112 : decode q_M_init.2.1 112 = .ok (.bipush 6, 2) := by decide +kernel
theorem d_M_init_114 : decode q_M_init.2.1 114 = .ok (.newarray .int, 2) := by decide +kernel
theorem d_M_init_116 : decode q_M_init.2.1 116 = .ok (.putfield 49, 3) := by decide +kernel
theorem pz_M_49 : rc_P "GlassRoomModel" 49 12 21 true (.array .int) := ⟨(RX12, TX12, 45), tyX12, rfl, by decide, (rx_s5 120 rfl rfl), rx_T12, tyX12_ok, nmX12, rfl, rfl, rfl⟩
theorem d_M_init_119 : decode q_M_init.2.1 119 = .ok (.aload_n 0, 1) := by decide +kernel
theorem d_M_init_120 : decode q_M_init.2.1 120 = .ok (.bipush 6, 2) := by decide +kernel
theorem d_M_init_122 : decode q_M_init.2.1 122 = .ok (.newarray .int, 2) := by decide +kernel
theorem d_M_init_124 : decode q_M_init.2.1 124 = .ok (.putfield 52, 3) := by decide +kernel
theorem pz_M_52 : rc_P "GlassRoomModel" 52 12 22 true (.array .int) := ⟨(RX12, TX12, 45), tyX12, rfl, by decide, (rx_s5 121 rfl rfl), rx_T12, tyX12_ok, nmX12, rfl, rfl, rfl⟩
theorem d_M_init_127 : decode q_M_init.2.1 127 = .ok (.aload_n 0, 1) := by decide +kernel
theorem d_M_init_128 : decode q_M_init.2.1 128 = .ok (.iconst (-1), 1) := by decide +kernel
theorem d_M_init_129 : decode q_M_init.2.1 129 = .ok (.putfield 55, 3) := by decide +kernel
theorem pz_M_55 : rc_P "GlassRoomModel" 55 12 28 false (.int) := ⟨(RX12, TX12, 45), tyX12, rfl, by decide, (rx_s5 127 rfl rfl), rx_T12, tyX12_ok, nmX12, rfl, rfl, rfl⟩
theorem d_M_init_132 : decode q_M_init.2.1 132 = .ok (.aload_n 0, 1) := by decide +kernel
theorem d_M_init_133 : decode q_M_init.2.1 133 = .ok (.sipush 520, 3) := by decide +kernel
theorem d_M_init_136 : decode q_M_init.2.1 136 = .ok (.newarray .int, 2) := by decide +kernel
theorem d_M_init_138 : decode q_M_init.2.1 138 = .ok (.putfield 59, 3) := by decide +kernel
theorem pz_M_59 : rc_P "GlassRoomModel" 59 12 29 true (.array .int) := ⟨(RX12, TX12, 45), tyX12, rfl, by decide, (rx_s5 128 rfl rfl), rx_T12, tyX12_ok, nmX12, rfl, rfl, rfl⟩
theorem d_M_init_141 : decode q_M_init.2.1 141 = .ok (.aload_n 0, 1) := by decide +kernel
theorem d_M_init_142 : decode q_M_init.2.1 142 = .ok (.sipush 441, 3) := by decide +kernel
theorem d_M_init_145 : decode q_M_init.2.1 145 = .ok (.newarray .int, 2) := by decide +kernel
theorem d_M_init_147 : decode q_M_init.2.1 147 = .ok (.putfield 62, 3) := by decide +kernel
theorem pz_M_62 : rc_P "GlassRoomModel" 62 12 31 true (.array .int) := ⟨(RX12, TX12, 45), tyX12, rfl, by decide, (rx_s5 130 rfl rfl), rx_T12, tyX12_ok, nmX12, rfl, rfl, rfl⟩
theorem d_M_init_150 : decode q_M_init.2.1 150 = .ok (.aload_n 0, 1) := by decide +kernel
theorem d_M_init_151 : decode q_M_init.2.1 151 = .ok (.sipush 441, 3) := by decide +kernel
theorem d_M_init_154 : decode q_M_init.2.1 154 = .ok (.newarray .int, 2) := by decide +kernel
theorem d_M_init_156 : decode q_M_init.2.1 156 = .ok (.putfield 65, 3) := by decide +kernel
theorem pz_M_65 : rc_P "GlassRoomModel" 65 12 32 true (.array .int) := ⟨(RX12, TX12, 45), tyX12, rfl, by decide, (rx_s5 131 rfl rfl), rx_T12, tyX12_ok, nmX12, rfl, rfl, rfl⟩
theorem d_M_init_159 : decode q_M_init.2.1 159 = .ok (.aload_n 0, 1) := by decide +kernel
theorem d_M_init_160 : decode q_M_init.2.1 160 = .ok (.sipush 441, 3) := by decide +kernel
theorem d_M_init_163 : decode q_M_init.2.1 163 = .ok (.newarray .int, 2) := by decide +kernel
theorem d_M_init_165 : decode q_M_init.2.1 165 = .ok (.putfield 68, 3) := by decide +kernel
theorem pz_M_68 : rc_P "GlassRoomModel" 68 12 33 true (.array .int) := ⟨(RX12, TX12, 45), tyX12, rfl, by decide, (rx_s5 132 rfl rfl), rx_T12, tyX12_ok, nmX12, rfl, rfl, rfl⟩
theorem d_M_init_168 : decode q_M_init.2.1 168 = .ok (.aload_n 0, 1) := by decide +kernel
theorem d_M_init_169 : decode q_M_init.2.1 169 = .ok (.sipush 360, 3) := by decide +kernel
theorem d_M_init_172 : decode q_M_init.2.1 172 = .ok (.newarray .int, 2) := by decide +kernel
theorem d_M_init_174 : decode q_M_init.2.1 174 = .ok (.putfield 71, 3) := by decide +kernel
theorem pz_M_71 : rc_P "GlassRoomModel" 71 12 37 true (.array .int) := ⟨(RX12, TX12, 45), tyX12, rfl, by decide, (rx_s5 136 rfl rfl), rx_T12, tyX12_ok, nmX12, rfl, rfl, rfl⟩
theorem d_M_init_177 : decode q_M_init.2.1 177 = .ok (.aload_n 0, 1) := by decide +kernel
theorem d_M_init_178 : decode q_M_init.2.1 178 = .ok (.bipush 12, 2) := by decide +kernel
theorem d_M_init_180 : decode q_M_init.2.1 180 = .ok (.newarray .int, 2) := by decide +kernel
theorem d_M_init_182 : decode q_M_init.2.1 182 = .ok (.putfield 74, 3) := by decide +kernel
theorem pz_M_74 : rc_P "GlassRoomModel" 74 12 40 true (.array .int) := ⟨(RX12, TX12, 45), tyX12, rfl, by decide, (rx_s5 139 rfl rfl), rx_T12, tyX12_ok, nmX12, rfl, rfl, rfl⟩
theorem d_M_init_185 : decode q_M_init.2.1 185 = .ok (.aload_n 0, 1) := by decide +kernel
theorem d_M_init_186 : decode q_M_init.2.1 186 = .ok (.bipush 12, 2) := by decide +kernel
theorem d_M_init_188 : decode q_M_init.2.1 188 = .ok (.newarray .int, 2) := by decide +kernel
theorem d_M_init_190 : decode q_M_init.2.1 190 = .ok (.putfield 77, 3) := by decide +kernel
theorem pz_M_77 : rc_P "GlassRoomModel" 77 12 41 true (.array .int) := ⟨(RX12, TX12, 45), tyX12, rfl, by decide, (rx_s5 140 rfl rfl), rx_T12, tyX12_ok, nmX12, rfl, rfl, rfl⟩
theorem d_M_init_193 : decode q_M_init.2.1 193 = .ok (.aload_n 0, 1) := by decide +kernel
theorem d_M_init_194 : decode q_M_init.2.1 194 = .ok (.bipush 13, 2) := by decide +kernel
theorem d_M_init_196 : decode q_M_init.2.1 196 = .ok (.newarray .int, 2) := by decide +kernel
theorem d_M_init_198 : decode q_M_init.2.1 198 = .ok (.putfield 80, 3) := by decide +kernel
theorem pz_M_80 : rc_P "GlassRoomModel" 80 12 43 true (.array .int) := ⟨(RX12, TX12, 45), tyX12, rfl, by decide, (rx_s5 142 rfl rfl), rx_T12, tyX12_ok, nmX12, rfl, rfl, rfl⟩
theorem d_M_init_201 : decode q_M_init.2.1 201 = .ok (.return_, 1) := by decide +kernel
set_option maxHeartbeats 4000000 in
set_option maxRecDepth 20000 in
theorem e_Ta {G : rx_Gh} (h0 sz : Nat) (g1 : G.2.2.2.2.2 ≤ h0) (g2 : G.2.2.2.2.2 ≤ sz) : Ec G ({ frames := 1, cells := 1, slots := 160, locals := 12 }) 1 160 q_Ta_init h0 [] (.inr (10, [.null, .int 0, .int 0])) sz (fun _ w => ∃ (a1 : Nat), w = [(h0, .inr (10, [.ref a1, .int 0, .int 0])), (a1, rc_r G 160)]) := by
  refine ec_of g1 g2 rfl rfl (Nat.le_of_ble_eq_true rfl) rfl rfl ?_
  show Rc G _ _ _ _ _ _ 0 [some (.ref h0)] [] _ 0 0 _
  refine c_aload_n (i := 0) d_Ta_init_0 rfl rfl ?_
  refine c_obj d_Ta_init_1 (rx_s1 38 rfl rfl) (rx_s1 31 rfl rfl) (rx_s1 32 rfl rfl) (Nat.le_of_ble_eq_true rfl) (Nat.le_of_ble_eq_true rfl) ?_
  refine c_aload_n (i := 0) d_Ta_init_4 rfl rfl ?_
  refine c_sipush (v := 160) d_Ta_init_5 (by decide) ?_
  refine c_newI (N := 160) d_Ta_init_8 (rx_s1 53 rfl rfl) rfl (by decide) (by decide) (by decide) (Nat.le_of_ble_eq_true rfl) (Nat.le_of_ble_eq_true rfl) (fun a1 => ?_)
  refine c_put (q0 := 0) (wz := [(h0, .inr (10, [.ref a1, .int 0, .int 0])), (a1, rc_r G 160)]) d_Ta_init_10 pz_Ta_9 rfl rfl rfl (Nat.le_of_ble_eq_true rfl) rfl ?_
  refine c_vret d_Ta_init_13 rfl rfl rfl ?_
  exact ⟨a1, rfl⟩
set_option maxHeartbeats 4000000 in
set_option maxRecDepth 20000 in
theorem e_Ha {G : rx_Gh} (h0 sz : Nat) (g1 : G.2.2.2.2.2 ≤ h0) (g2 : G.2.2.2.2.2 ≤ sz) : Ec G ({ frames := 1, cells := 4, slots := 39, locals := 12 }) 4 39 q_Ha_init h0 [] (.inr (3, [.null, .null, .null, .null, .int 0, .int 0, .int 0, .int 0, .int 0])) sz (fun _ w => ∃ (a1 a2 a3 a4 : Nat), w = [(h0, .inr (3, [.ref a1, .ref a2, .ref a3, .ref a4, .int 0, .int 0, .int 0, .int 0, .int 0])), (a1, rc_r G 6), (a2, rc_r G 6), (a3, rc_r G 6), (a4, rc_r G 21)]) := by
  refine ec_of g1 g2 rfl rfl (Nat.le_of_ble_eq_true rfl) rfl rfl ?_
  show Rc G _ _ _ _ _ _ 0 [some (.ref h0)] [] _ 0 0 _
  refine c_aload_n (i := 0) d_Ha_init_0 rfl rfl ?_
  refine c_obj d_Ha_init_1 (rx_s1 59 rfl rfl) (rx_s1 31 rfl rfl) (rx_s1 32 rfl rfl) (Nat.le_of_ble_eq_true rfl) (Nat.le_of_ble_eq_true rfl) ?_
  refine c_aload_n (i := 0) d_Ha_init_4 rfl rfl ?_
  refine c_bipush (v := 6) d_Ha_init_5 (by decide) ?_
  refine c_newI (N := 6) d_Ha_init_7 (rx_s1 53 rfl rfl) rfl (by decide) (by decide) (by decide) (Nat.le_of_ble_eq_true rfl) (Nat.le_of_ble_eq_true rfl) (fun a1 => ?_)
  refine c_put (q0 := 0) (wz := [(h0, .inr (3, [.ref a1, .null, .null, .null, .int 0, .int 0, .int 0, .int 0, .int 0])), (a1, rc_r G 6)]) d_Ha_init_9 pz_Ha_9 rfl rfl rfl (Nat.le_of_ble_eq_true rfl) rfl ?_
  refine c_aload_n (i := 0) d_Ha_init_12 rfl rfl ?_
  refine c_bipush (v := 6) d_Ha_init_13 (by decide) ?_
  refine c_newI (N := 6) d_Ha_init_15 (rx_s1 53 rfl rfl) rfl (by decide) (by decide) (by decide) (Nat.le_of_ble_eq_true rfl) (Nat.le_of_ble_eq_true rfl) (fun a2 => ?_)
  refine c_put (q0 := 0) (wz := [(h0, .inr (3, [.ref a1, .ref a2, .null, .null, .int 0, .int 0, .int 0, .int 0, .int 0])), (a1, rc_r G 6), (a2, rc_r G 6)]) d_Ha_init_17 pz_Ha_15 rfl rfl rfl (Nat.le_of_ble_eq_true rfl) rfl ?_
  refine c_aload_n (i := 0) d_Ha_init_20 rfl rfl ?_
  refine c_bipush (v := 6) d_Ha_init_21 (by decide) ?_
  refine c_newI (N := 6) d_Ha_init_23 (rx_s1 53 rfl rfl) rfl (by decide) (by decide) (by decide) (Nat.le_of_ble_eq_true rfl) (Nat.le_of_ble_eq_true rfl) (fun a3 => ?_)
  refine c_put (q0 := 0) (wz := [(h0, .inr (3, [.ref a1, .ref a2, .ref a3, .null, .int 0, .int 0, .int 0, .int 0, .int 0])), (a1, rc_r G 6), (a2, rc_r G 6), (a3, rc_r G 6)]) d_Ha_init_25 pz_Ha_18 rfl rfl rfl (Nat.le_of_ble_eq_true rfl) rfl ?_
  refine c_aload_n (i := 0) d_Ha_init_28 rfl rfl ?_
  refine c_bipush (v := 21) d_Ha_init_29 (by decide) ?_
  refine c_newI (N := 21) d_Ha_init_31 (rx_s1 53 rfl rfl) rfl (by decide) (by decide) (by decide) (Nat.le_of_ble_eq_true rfl) (Nat.le_of_ble_eq_true rfl) (fun a4 => ?_)
  refine c_put (q0 := 0) (wz := [(h0, .inr (3, [.ref a1, .ref a2, .ref a3, .ref a4, .int 0, .int 0, .int 0, .int 0, .int 0])), (a1, rc_r G 6), (a2, rc_r G 6), (a3, rc_r G 6), (a4, rc_r G 21)]) d_Ha_init_33 pz_Ha_21 rfl rfl rfl (Nat.le_of_ble_eq_true rfl) rfl ?_
  refine c_vret d_Ha_init_36 rfl rfl rfl ?_
  exact ⟨a1, a2, a3, a4, rfl⟩
set_option maxHeartbeats 4000000 in
set_option maxRecDepth 20000 in
theorem e_Li {G : rx_Gh} (h0 sz : Nat) (g1 : G.2.2.2.2.2 ≤ h0) (g2 : G.2.2.2.2.2 ≤ sz) : Ec G ({ frames := 1, cells := 2, slots := 320, locals := 12 }) 2 320 q_Li_init h0 [] (.inr (6, [.null, .null, .int 0])) sz (fun _ w => ∃ (a1 a2 : Nat), w = [(h0, .inr (6, [.ref a1, .ref a2, .int 0])), (a1, rc_r G 160), (a2, rc_r G 160)]) := by
  refine ec_of g1 g2 rfl rfl (Nat.le_of_ble_eq_true rfl) rfl rfl ?_
  show Rc G _ _ _ _ _ _ 0 [some (.ref h0)] [] _ 0 0 _
  refine c_aload_n (i := 0) d_Li_init_0 rfl rfl ?_
  refine c_obj d_Li_init_1 (rx_s1 163 rfl rfl) (rx_s1 31 rfl rfl) (rx_s1 32 rfl rfl) (Nat.le_of_ble_eq_true rfl) (Nat.le_of_ble_eq_true rfl) ?_
  refine c_aload_n (i := 0) d_Li_init_4 rfl rfl ?_
  refine c_sipush (v := 160) d_Li_init_5 (by decide) ?_
  refine c_newI (N := 160) d_Li_init_8 (rx_s1 53 rfl rfl) rfl (by decide) (by decide) (by decide) (Nat.le_of_ble_eq_true rfl) (Nat.le_of_ble_eq_true rfl) (fun a1 => ?_)
  refine c_put (q0 := 0) (wz := [(h0, .inr (6, [.ref a1, .null, .int 0])), (a1, rc_r G 160)]) d_Li_init_10 pz_Li_9 rfl rfl rfl (Nat.le_of_ble_eq_true rfl) rfl ?_
  refine c_aload_n (i := 0) d_Li_init_13 rfl rfl ?_
  refine c_sipush (v := 160) d_Li_init_14 (by decide) ?_
  refine c_newI (N := 160) d_Li_init_17 (rx_s1 53 rfl rfl) rfl (by decide) (by decide) (by decide) (Nat.le_of_ble_eq_true rfl) (Nat.le_of_ble_eq_true rfl) (fun a2 => ?_)
  refine c_put (q0 := 0) (wz := [(h0, .inr (6, [.ref a1, .ref a2, .int 0])), (a1, rc_r G 160), (a2, rc_r G 160)]) d_Li_init_19 pz_Li_15 rfl rfl rfl (Nat.le_of_ble_eq_true rfl) rfl ?_
  refine c_vret d_Li_init_22 rfl rfl rfl ?_
  exact ⟨a1, a2, rfl⟩
set_option maxHeartbeats 4000000 in
set_option maxRecDepth 20000 in
theorem e_Ac {G : rx_Gh} (h0 sz : Nat) (g1 : G.2.2.2.2.2 ≤ h0) (g2 : G.2.2.2.2.2 ≤ sz) : Ec G ({ frames := 1, cells := 1, slots := 520, locals := 12 }) 1 520 q_Ac_init h0 [] (.inr (0, [.null, .int 0, .int 0])) sz (fun _ w => ∃ (a1 : Nat), w = [(h0, .inr (0, [.ref a1, .int 0, .int 0])), (a1, rc_r G 520)]) := by
  refine ec_of g1 g2 rfl rfl (Nat.le_of_ble_eq_true rfl) rfl rfl ?_
  show Rc G _ _ _ _ _ _ 0 [some (.ref h0)] [] _ 0 0 _
  refine c_aload_n (i := 0) d_Ac_init_0 rfl rfl ?_
  refine c_obj d_Ac_init_1 (rx_s1 190 rfl rfl) (rx_s1 31 rfl rfl) (rx_s1 32 rfl rfl) (Nat.le_of_ble_eq_true rfl) (Nat.le_of_ble_eq_true rfl) ?_
  refine c_aload_n (i := 0) d_Ac_init_4 rfl rfl ?_
  refine c_sipush (v := 520) d_Ac_init_5 (by decide) ?_
  refine c_newI (N := 520) d_Ac_init_8 (rx_s1 53 rfl rfl) rfl (by decide) (by decide) (by decide) (Nat.le_of_ble_eq_true rfl) (Nat.le_of_ble_eq_true rfl) (fun a1 => ?_)
  refine c_put (q0 := 0) (wz := [(h0, .inr (0, [.ref a1, .int 0, .int 0])), (a1, rc_r G 520)]) d_Ac_init_10 pz_Ac_11 rfl rfl rfl (Nat.le_of_ble_eq_true rfl) rfl ?_
  refine c_vret d_Ac_init_13 rfl rfl rfl ?_
  exact ⟨a1, rfl⟩
set_option maxHeartbeats 4000000 in
set_option maxRecDepth 20000 in
theorem e_Di {G : rx_Gh} (h0 r1 sz : Nat) (g1 : G.2.2.2.2.2 ≤ h0) (g2 : G.2.2.2.2.2 ≤ sz) : Ec G ({ frames := 1, cells := 2, slots := 42, locals := 12 }) 2 42 q_Di_init h0 [.ref r1] (.inr (2, [.null, .null, .null, .int 0, .int 0, .int 0, .int 0, .int 0, .int 0, .int 0])) sz (fun _ w => ∃ (a1 a2 : Nat), w = [(h0, .inr (2, [.ref r1, .ref a1, .ref a2, .int 0, .int 0, .int 0, .int 0, .int 0, .int 0, .int 0])), (a1, rc_r G 21), (a2, rc_r G 21)]) := by
  refine ec_of g1 g2 rfl rfl (Nat.le_of_ble_eq_true rfl) rfl rfl ?_
  show Rc G _ _ _ _ _ _ 0 [some (.ref h0), some (.ref r1)] [] _ 0 0 _
  refine c_aload_n (i := 0) d_Di_init_0 rfl rfl ?_
  refine c_obj d_Di_init_1 (rx_s1 207 rfl rfl) (rx_s1 31 rfl rfl) (rx_s1 32 rfl rfl) (Nat.le_of_ble_eq_true rfl) (Nat.le_of_ble_eq_true rfl) ?_
  refine c_aload_n (i := 0) d_Di_init_4 rfl rfl ?_
  refine c_bipush (v := 21) d_Di_init_5 (by decide) ?_
  refine c_newI (N := 21) d_Di_init_7 (rx_s1 53 rfl rfl) rfl (by decide) (by decide) (by decide) (Nat.le_of_ble_eq_true rfl) (Nat.le_of_ble_eq_true rfl) (fun a1 => ?_)
  refine c_put (q0 := 0) (wz := [(h0, .inr (2, [.null, .ref a1, .null, .int 0, .int 0, .int 0, .int 0, .int 0, .int 0, .int 0])), (a1, rc_r G 21)]) d_Di_init_9 pz_Di_9 rfl rfl rfl (Nat.le_of_ble_eq_true rfl) rfl ?_
  refine c_aload_n (i := 0) d_Di_init_12 rfl rfl ?_
  refine c_bipush (v := 21) d_Di_init_13 (by decide) ?_
  refine c_newI (N := 21) d_Di_init_15 (rx_s1 53 rfl rfl) rfl (by decide) (by decide) (by decide) (Nat.le_of_ble_eq_true rfl) (Nat.le_of_ble_eq_true rfl) (fun a2 => ?_)
  refine c_put (q0 := 0) (wz := [(h0, .inr (2, [.null, .ref a1, .ref a2, .int 0, .int 0, .int 0, .int 0, .int 0, .int 0, .int 0])), (a1, rc_r G 21), (a2, rc_r G 21)]) d_Di_init_17 pz_Di_15 rfl rfl rfl (Nat.le_of_ble_eq_true rfl) rfl ?_
  refine c_aload_n (i := 0) d_Di_init_20 rfl rfl ?_
  refine c_aload_n (i := 1) d_Di_init_21 rfl rfl ?_
  refine c_put (q0 := 0) (wz := [(h0, .inr (2, [.ref r1, .ref a1, .ref a2, .int 0, .int 0, .int 0, .int 0, .int 0, .int 0, .int 0])), (a1, rc_r G 21), (a2, rc_r G 21)]) d_Di_init_22 pz_Di_18 rfl rfl rfl (Nat.le_of_ble_eq_true rfl) rfl ?_
  refine c_vret d_Di_init_25 rfl rfl rfl ?_
  exact ⟨a1, a2, rfl⟩
set_option maxHeartbeats 4000000 in
set_option maxRecDepth 20000 in
theorem e_Si {G : rx_Gh} (h0 r1 sz : Nat) (g1 : G.2.2.2.2.2 ≤ h0) (g2 : G.2.2.2.2.2 ≤ sz) : Ec G ({ frames := 1, cells := 0, slots := 0, locals := 12 }) 0 0 q_Si_init h0 [.ref r1] (.inr (9, [.null, .int 0, .int 0, .int 0, .int 0, .int 0, .int 0, .int 0, .int 0])) sz (fun _ w => w = [(h0, .inr (9, [.ref r1, .int 0, .int 0, .int 0, .int 0, .int 0, .int 0, .int 0, .int 0]))]) := by
  refine ec_of g1 g2 rfl rfl (Nat.le_of_ble_eq_true rfl) rfl rfl ?_
  show Rc G _ _ _ _ _ _ 0 [some (.ref h0), some (.ref r1)] [] _ 0 0 _
  refine c_aload_n (i := 0) d_Si_init_0 rfl rfl ?_
  refine c_obj d_Si_init_1 (rx_s2 11 rfl rfl) (rx_s1 31 rfl rfl) (rx_s1 32 rfl rfl) (Nat.le_of_ble_eq_true rfl) (Nat.le_of_ble_eq_true rfl) ?_
  refine c_aload_n (i := 0) d_Si_init_4 rfl rfl ?_
  refine c_aload_n (i := 1) d_Si_init_5 rfl rfl ?_
  refine c_put (q0 := 0) (wz := [(h0, .inr (9, [.ref r1, .int 0, .int 0, .int 0, .int 0, .int 0, .int 0, .int 0, .int 0]))]) d_Si_init_6 pz_Si_9 rfl rfl rfl (Nat.le_of_ble_eq_true rfl) rfl ?_
  refine c_vret d_Si_init_9 rfl rfl rfl ?_
  rfl
set_option maxHeartbeats 4000000 in
set_option maxRecDepth 20000 in
theorem e_Ba {G : rx_Gh} (h0 r1 sz : Nat) (g1 : G.2.2.2.2.2 ≤ h0) (g2 : G.2.2.2.2.2 ≤ sz) : Ec G ({ frames := 1, cells := 1, slots := 40, locals := 12 }) 1 40 q_Ba_init h0 [.ref r1] (.inr (1, [.null, .null, .int 0, .int 0])) sz (fun _ w => ∃ (a1 : Nat), w = [(h0, .inr (1, [.ref r1, .ref a1, .int 0, .int 0])), (a1, rc_r G 40)]) := by
  refine ec_of g1 g2 rfl rfl (Nat.le_of_ble_eq_true rfl) rfl rfl ?_
  show Rc G _ _ _ _ _ _ 0 [some (.ref h0), some (.ref r1)] [] _ 0 0 _
  refine c_aload_n (i := 0) d_Ba_init_0 rfl rfl ?_
  refine c_obj d_Ba_init_1 (rx_s2 45 rfl rfl) (rx_s1 31 rfl rfl) (rx_s1 32 rfl rfl) (Nat.le_of_ble_eq_true rfl) (Nat.le_of_ble_eq_true rfl) ?_
  refine c_aload_n (i := 0) d_Ba_init_4 rfl rfl ?_
  refine c_bipush (v := 40) d_Ba_init_5 (by decide) ?_
  refine c_newI (N := 40) d_Ba_init_7 (rx_s1 53 rfl rfl) rfl (by decide) (by decide) (by decide) (Nat.le_of_ble_eq_true rfl) (Nat.le_of_ble_eq_true rfl) (fun a1 => ?_)
  refine c_put (q0 := 0) (wz := [(h0, .inr (1, [.null, .ref a1, .int 0, .int 0])), (a1, rc_r G 40)]) d_Ba_init_9 pz_Ba_9 rfl rfl rfl (Nat.le_of_ble_eq_true rfl) rfl ?_
  refine c_aload_n (i := 0) d_Ba_init_12 rfl rfl ?_
  refine c_aload_n (i := 1) d_Ba_init_13 rfl rfl ?_
  refine c_put (q0 := 0) (wz := [(h0, .inr (1, [.ref r1, .ref a1, .int 0, .int 0])), (a1, rc_r G 40)]) d_Ba_init_14 pz_Ba_15 rfl rfl rfl (Nat.le_of_ble_eq_true rfl) rfl ?_
  refine c_vret d_Ba_init_17 rfl rfl rfl ?_
  exact ⟨a1, rfl⟩
set_option maxHeartbeats 4000000 in
set_option maxRecDepth 20000 in
theorem e_Hg {G : rx_Gh} (h0 r1 sz : Nat) (g1 : G.2.2.2.2.2 ≤ h0) (g2 : G.2.2.2.2.2 ≤ sz) : Ec G ({ frames := 1, cells := 0, slots := 0, locals := 12 }) 0 0 q_Hg_init h0 [.ref r1] (.inr (5, [.null, .int 0, .int 0])) sz (fun _ w => w = [(h0, .inr (5, [.ref r1, .int 0, .int 0]))]) := by
  refine ec_of g1 g2 rfl rfl (Nat.le_of_ble_eq_true rfl) rfl rfl ?_
  show Rc G _ _ _ _ _ _ 0 [some (.ref h0), some (.ref r1)] [] _ 0 0 _
  refine c_aload_n (i := 0) d_Hg_init_0 rfl rfl ?_
  refine c_obj d_Hg_init_1 (rx_s2 66 rfl rfl) (rx_s1 31 rfl rfl) (rx_s1 32 rfl rfl) (Nat.le_of_ble_eq_true rfl) (Nat.le_of_ble_eq_true rfl) ?_
  refine c_aload_n (i := 0) d_Hg_init_4 rfl rfl ?_
  refine c_aload_n (i := 1) d_Hg_init_5 rfl rfl ?_
  refine c_put (q0 := 0) (wz := [(h0, .inr (5, [.ref r1, .int 0, .int 0]))]) d_Hg_init_6 pz_Hg_7 rfl rfl rfl (Nat.le_of_ble_eq_true rfl) rfl ?_
  refine c_vret d_Hg_init_9 rfl rfl rfl ?_
  rfl
set_option maxHeartbeats 4000000 in
set_option maxRecDepth 20000 in
theorem e_Ph {G : rx_Gh} (h0 r1 sz : Nat) (g1 : G.2.2.2.2.2 ≤ h0) (g2 : G.2.2.2.2.2 ≤ sz) : Ec G ({ frames := 1, cells := 2, slots := 24, locals := 12 }) 2 24 q_Ph_init h0 [.ref r1] (.inr (8, [.null, .null, .null, .int 0])) sz (fun _ w => ∃ (a1 a2 : Nat), w = [(h0, .inr (8, [.ref r1, .ref a1, .ref a2, .int 0])), (a1, rc_r G 12), (a2, rc_r G 12)]) := by
  refine ec_of g1 g2 rfl rfl (Nat.le_of_ble_eq_true rfl) rfl rfl ?_
  show Rc G _ _ _ _ _ _ 0 [some (.ref h0), some (.ref r1)] [] _ 0 0 _
  refine c_aload_n (i := 0) d_Ph_init_0 rfl rfl ?_
  refine c_obj d_Ph_init_1 (rx_s2 84 rfl rfl) (rx_s1 31 rfl rfl) (rx_s1 32 rfl rfl) (Nat.le_of_ble_eq_true rfl) (Nat.le_of_ble_eq_true rfl) ?_
  refine c_aload_n (i := 0) d_Ph_init_4 rfl rfl ?_
  refine c_bipush (v := 12) d_Ph_init_5 (by decide) ?_
  refine c_newI (N := 12) d_Ph_init_7 (rx_s1 53 rfl rfl) rfl (by decide) (by decide) (by decide) (Nat.le_of_ble_eq_true rfl) (Nat.le_of_ble_eq_true rfl) (fun a1 => ?_)
  refine c_put (q0 := 0) (wz := [(h0, .inr (8, [.null, .ref a1, .null, .int 0])), (a1, rc_r G 12)]) d_Ph_init_9 pz_Ph_9 rfl rfl rfl (Nat.le_of_ble_eq_true rfl) rfl ?_
  refine c_aload_n (i := 0) d_Ph_init_12 rfl rfl ?_
  refine c_bipush (v := 12) d_Ph_init_13 (by decide) ?_
  refine c_newI (N := 12) d_Ph_init_15 (rx_s1 53 rfl rfl) rfl (by decide) (by decide) (by decide) (Nat.le_of_ble_eq_true rfl) (Nat.le_of_ble_eq_true rfl) (fun a2 => ?_)
  refine c_put (q0 := 0) (wz := [(h0, .inr (8, [.null, .ref a1, .ref a2, .int 0])), (a1, rc_r G 12), (a2, rc_r G 12)]) d_Ph_init_17 pz_Ph_15 rfl rfl rfl (Nat.le_of_ble_eq_true rfl) rfl ?_
  refine c_aload_n (i := 0) d_Ph_init_20 rfl rfl ?_
  refine c_aload_n (i := 1) d_Ph_init_21 rfl rfl ?_
  refine c_put (q0 := 0) (wz := [(h0, .inr (8, [.ref r1, .ref a1, .ref a2, .int 0])), (a1, rc_r G 12), (a2, rc_r G 12)]) d_Ph_init_22 pz_Ph_18 rfl rfl rfl (Nat.le_of_ble_eq_true rfl) rfl ?_
  refine c_vret d_Ph_init_25 rfl rfl rfl ?_
  exact ⟨a1, a2, rfl⟩
set_option maxHeartbeats 4000000 in
set_option maxRecDepth 20000 in
theorem e_HR {G : rx_Gh} (h0 r1 sz : Nat) (g1 : G.2.2.2.2.2 ≤ h0) (g2 : G.2.2.2.2.2 ≤ sz) : Ec G ({ frames := 2, cells := 6, slots := 55, locals := 32 }) 6 55 q_HR_init h0 [.ref r1] (.inr (4, [.null, .null, .null, .int 0])) sz (fun _ w => ∃ (a1 a2 a3 a4 a5 a6 : Nat), w = [(h0, .inr (4, [.ref r1, .ref a1, .ref a2, .int 0])), (a1, rc_r G 7), (a2, .inr (3, [.ref a3, .ref a4, .ref a5, .ref a6, .int 0, .int 0, .int 0, .int 0, .int 0])), (a3, rc_r G 6), (a4, rc_r G 6), (a5, rc_r G 6), (a6, rc_r G 21)]) := by
  refine ec_of g1 g2 rfl rfl (Nat.le_of_ble_eq_true rfl) rfl rfl ?_
  show Rc G _ _ _ _ _ _ 0 [some (.ref h0), some (.ref r1)] [] _ 0 0 _
  refine c_aload_n (i := 0) d_HR_init_0 rfl rfl ?_
  refine c_obj d_HR_init_1 (rx_s1 133 rfl rfl) (rx_s1 31 rfl rfl) (rx_s1 32 rfl rfl) (Nat.le_of_ble_eq_true rfl) (Nat.le_of_ble_eq_true rfl) ?_
  refine c_aload_n (i := 0) d_HR_init_4 rfl rfl ?_
  refine c_usual d_HR_init_5 d_HR_init_8 (rx_s1 134 rfl rfl) ?_
  refine c_newI (N := 7) d_HR_init_9 (rx_s1 53 rfl rfl) rfl (by decide) (by decide) (by decide) (Nat.le_of_ble_eq_true rfl) (Nat.le_of_ble_eq_true rfl) (fun a1 => ?_)
  refine c_put (q0 := 0) (wz := [(h0, .inr (4, [.null, .ref a1, .null, .int 0])), (a1, rc_r G 7)]) d_HR_init_11 pz_HR_15 rfl rfl rfl (Nat.le_of_ble_eq_true rfl) rfl ?_
  refine c_aload_n (i := 0) d_HR_init_14 rfl rfl ?_
  refine c_new d_HR_init_15 nz_HR_18 (Nat.le_of_ble_eq_true rfl) (Nat.le_of_ble_eq_true rfl) (fun a2 => ?_)
  refine c_dup d_HR_init_18 ?_
  have he := e_Ha (G := G) a2 
  refine c_call (G := G) (y := q_Ha_init) (b := a2) (idx := 20) (n := 0) (As := []) (wr := [(h0, .inr (4, [.null, .ref a1, .null, .int 0])), (a1, rc_r G 7)]) (st := [.ref a2, .ref h0]) d_HR_init_19 cz_HR_20 (by rfl) (by rfl) he (by rfl) (by rfl) (by exact Nat.le_of_ble_eq_true rfl) (by exact Nat.le_of_ble_eq_true rfl) (by rfl) (by exact Nat.le_of_ble_eq_true rfl) (by exact Nat.le_of_ble_eq_true rfl) (by exact Nat.le_of_ble_eq_true rfl) (fun t1 w1 hw => ?_) (by rfl)
  clear he
  obtain ⟨a3, a4, a5, a6, rfl⟩ := hw
  refine c_put (q0 := 0) (wz := [(h0, .inr (4, [.null, .ref a1, .ref a2, .int 0])), (a1, rc_r G 7), (a2, .inr (3, [.ref a3, .ref a4, .ref a5, .ref a6, .int 0, .int 0, .int 0, .int 0, .int 0])), (a3, rc_r G 6), (a4, rc_r G 6), (a5, rc_r G 6), (a6, rc_r G 21)]) d_HR_init_22 pz_HR_21 rfl rfl rfl (Nat.le_of_ble_eq_true rfl) rfl ?_
  refine c_aload_n (i := 0) d_HR_init_25 rfl rfl ?_
  refine c_aload_n (i := 1) d_HR_init_26 rfl rfl ?_
  refine c_put (q0 := 0) (wz := [(h0, .inr (4, [.ref r1, .ref a1, .ref a2, .int 0])), (a1, rc_r G 7), (a2, .inr (3, [.ref a3, .ref a4, .ref a5, .ref a6, .int 0, .int 0, .int 0, .int 0, .int 0])), (a3, rc_r G 6), (a4, rc_r G 6), (a5, rc_r G 6), (a6, rc_r G 21)]) d_HR_init_27 pz_HR_25 rfl rfl rfl (Nat.le_of_ble_eq_true rfl) rfl ?_
  refine c_vret d_HR_init_30 rfl rfl rfl ?_
  exact ⟨a1, a2, a3, a4, a5, a6, rfl⟩
set_option maxHeartbeats 4000000 in
set_option maxRecDepth 20000 in
theorem e_LR {G : rx_Gh} (h0 r1 sz : Nat) (g1 : G.2.2.2.2.2 ≤ h0) (g2 : G.2.2.2.2.2 ≤ sz) : Ec G ({ frames := 2, cells := 3, slots := 323, locals := 32 }) 3 323 q_LR_init h0 [.ref r1] (.inr (7, [.null, .null])) sz (fun _ w => ∃ (a1 a2 a3 : Nat), w = [(h0, .inr (7, [.ref r1, .ref a1])), (a1, .inr (6, [.ref a2, .ref a3, .int 0])), (a2, rc_r G 160), (a3, rc_r G 160)]) := by
  refine ec_of g1 g2 rfl rfl (Nat.le_of_ble_eq_true rfl) rfl rfl ?_
  show Rc G _ _ _ _ _ _ 0 [some (.ref h0), some (.ref r1)] [] _ 0 0 _
  refine c_aload_n (i := 0) d_LR_init_0 rfl rfl ?_
  refine c_obj d_LR_init_1 (rx_s1 157 rfl rfl) (rx_s1 31 rfl rfl) (rx_s1 32 rfl rfl) (Nat.le_of_ble_eq_true rfl) (Nat.le_of_ble_eq_true rfl) ?_
  refine c_aload_n (i := 0) d_LR_init_4 rfl rfl ?_
  refine c_aload_n (i := 1) d_LR_init_5 rfl rfl ?_
  refine c_put (q0 := 0) (wz := [(h0, .inr (7, [.ref r1, .null]))]) d_LR_init_6 pz_LR_9 rfl rfl rfl (Nat.le_of_ble_eq_true rfl) rfl ?_
  refine c_aload_n (i := 0) d_LR_init_9 rfl rfl ?_
  refine c_new d_LR_init_10 nz_LR_15 (Nat.le_of_ble_eq_true rfl) (Nat.le_of_ble_eq_true rfl) (fun a1 => ?_)
  refine c_dup d_LR_init_13 ?_
  have he := e_Li (G := G) a1 
  refine c_call (G := G) (y := q_Li_init) (b := a1) (idx := 17) (n := 0) (As := []) (wr := [(h0, .inr (7, [.ref r1, .null]))]) (st := [.ref a1, .ref h0]) d_LR_init_14 cz_LR_17 (by rfl) (by rfl) he (by rfl) (by rfl) (by exact Nat.le_of_ble_eq_true rfl) (by exact Nat.le_of_ble_eq_true rfl) (by rfl) (by exact Nat.le_of_ble_eq_true rfl) (by exact Nat.le_of_ble_eq_true rfl) (by exact Nat.le_of_ble_eq_true rfl) (fun t1 w1 hw => ?_) (by rfl)
  clear he
  obtain ⟨a2, a3, rfl⟩ := hw
  refine c_put (q0 := 0) (wz := [(h0, .inr (7, [.ref r1, .ref a1])), (a1, .inr (6, [.ref a2, .ref a3, .int 0])), (a2, rc_r G 160), (a3, rc_r G 160)]) d_LR_init_17 pz_LR_18 rfl rfl rfl (Nat.le_of_ble_eq_true rfl) rfl ?_
  refine c_vret d_LR_init_20 rfl rfl rfl ?_
  exact ⟨a1, a2, a3, rfl⟩
set_option maxHeartbeats 4000000 in
set_option maxRecDepth 20000 in
theorem e_M {G : rx_Gh} (h0 sz : Nat) (g1 : G.2.2.2.2.2 ≤ h0) (g2 : G.2.2.2.2.2 ≤ sz) : Ec G ({ frames := 1, cells := 23, slots := 7286, locals := 12 }) 23 7286 q_M_init h0 [] (.inr (12, [.int 0, .null, .int 0, .int 0, .int 0, .int 0, .null, .null, .null, .null, .null, .null, .null, .int 0, .int 0, .null, .null, .null, .null, .int 0, .null, .null, .null, .int 0, .int 0, .int 0, .int 0, .int 0, .int 0, .null, .int 0, .null, .null, .null, .int 0, .int 0, .int 0, .null, .int 0, .int 0, .null, .null, .int 0, .null, .int 0])) sz (fun _ w => ∃ (a1 a2 a3 a4 a5 a6 a7 a8 a9 a10 a11 a12 a13 a14 a15 a16 a17 a18 a19 a20 a21 a22 a23 : Nat), w = [(h0, .inr (12, [.int 0, .ref a1, .int 0, .int 0, .int 0, .int 0, .ref a2, .ref a3, .ref a4, .ref a5, .ref a6, .ref a7, .ref a8, .int 0, .int 0, .ref a9, .ref a10, .ref a11, .ref a12, .int 0, .ref a13, .ref a14, .ref a15, .int 0, .int 0, .int 0, .int 0, .int 0, .int (-1), .ref a16, .int 0, .ref a17, .ref a18, .ref a19, .int 0, .int 0, .int 0, .ref a20, .int 0, .int 0, .ref a21, .ref a22, .int 0, .ref a23, .int 0])), (a1, rc_r G 160), (a2, rc_r G 1700), (a3, rc_r G 1700), (a4, rc_r G 5), (a5, rc_r G 5), (a6, rc_r G 450), (a7, rc_r G 450), (a8, rc_r G 450), (a9, rc_r G 6), (a10, rc_r G 80), (a11, rc_r G 4), (a12, rc_r G 18), (a13, rc_r G 6), (a14, rc_r G 6), (a15, rc_r G 6), (a16, rc_r G 520), (a17, rc_r G 441), (a18, rc_r G 441), (a19, rc_r G 441), (a20, rc_r G 360), (a21, rc_r G 12), (a22, rc_r G 12), (a23, rc_r G 13)]) := by
  refine ec_of g1 g2 rfl rfl (Nat.le_of_ble_eq_true rfl) rfl rfl ?_
  show Rc G _ _ _ _ _ _ 0 [some (.ref h0)] [] _ 0 0 _
  refine c_aload_n (i := 0) d_M_init_0 rfl rfl ?_
  refine c_obj d_M_init_1 (rx_s5 98 rfl rfl) (rx_s1 31 rfl rfl) (rx_s1 32 rfl rfl) (Nat.le_of_ble_eq_true rfl) (Nat.le_of_ble_eq_true rfl) ?_
  refine c_aload_n (i := 0) d_M_init_4 rfl rfl ?_
  refine c_sipush (v := 160) d_M_init_5 (by decide) ?_
  refine c_newI (N := 160) d_M_init_8 (rx_s1 53 rfl rfl) rfl (by decide) (by decide) (by decide) (Nat.le_of_ble_eq_true rfl) (Nat.le_of_ble_eq_true rfl) (fun a1 => ?_)
  refine c_put (q0 := 0) (wz := [(h0, .inr (12, [.int 0, .ref a1, .int 0, .int 0, .int 0, .int 0, .null, .null, .null, .null, .null, .null, .null, .int 0, .int 0, .null, .null, .null, .null, .int 0, .null, .null, .null, .int 0, .int 0, .int 0, .int 0, .int 0, .int 0, .null, .int 0, .null, .null, .null, .int 0, .int 0, .int 0, .null, .int 0, .int 0, .null, .null, .int 0, .null, .int 0])), (a1, rc_r G 160)]) d_M_init_10 pz_M_9 rfl rfl rfl (Nat.le_of_ble_eq_true rfl) rfl ?_
  refine c_aload_n (i := 0) d_M_init_13 rfl rfl ?_
  refine c_sipush (v := 1700) d_M_init_14 (by decide) ?_
  refine c_newI (N := 1700) d_M_init_17 (rx_s1 53 rfl rfl) rfl (by decide) (by decide) (by decide) (Nat.le_of_ble_eq_true rfl) (Nat.le_of_ble_eq_true rfl) (fun a2 => ?_)
  refine c_put (q0 := 0) (wz := [(h0, .inr (12, [.int 0, .ref a1, .int 0, .int 0, .int 0, .int 0, .ref a2, .null, .null, .null, .null, .null, .null, .int 0, .int 0, .null, .null, .null, .null, .int 0, .null, .null, .null, .int 0, .int 0, .int 0, .int 0, .int 0, .int 0, .null, .int 0, .null, .null, .null, .int 0, .int 0, .int 0, .null, .int 0, .int 0, .null, .null, .int 0, .null, .int 0])), (a1, rc_r G 160), (a2, rc_r G 1700)]) d_M_init_19 pz_M_13 rfl rfl rfl (Nat.le_of_ble_eq_true rfl) rfl ?_
  refine c_aload_n (i := 0) d_M_init_22 rfl rfl ?_
  refine c_sipush (v := 1700) d_M_init_23 (by decide) ?_
  refine c_newI (N := 1700) d_M_init_26 (rx_s1 53 rfl rfl) rfl (by decide) (by decide) (by decide) (Nat.le_of_ble_eq_true rfl) (Nat.le_of_ble_eq_true rfl) (fun a3 => ?_)
  refine c_put (q0 := 0) (wz := [(h0, .inr (12, [.int 0, .ref a1, .int 0, .int 0, .int 0, .int 0, .ref a2, .ref a3, .null, .null, .null, .null, .null, .int 0, .int 0, .null, .null, .null, .null, .int 0, .null, .null, .null, .int 0, .int 0, .int 0, .int 0, .int 0, .int 0, .null, .int 0, .null, .null, .null, .int 0, .int 0, .int 0, .null, .int 0, .int 0, .null, .null, .int 0, .null, .int 0])), (a1, rc_r G 160), (a2, rc_r G 1700), (a3, rc_r G 1700)]) d_M_init_28 pz_M_16 rfl rfl rfl (Nat.le_of_ble_eq_true rfl) rfl ?_
  refine c_aload_n (i := 0) d_M_init_31 rfl rfl ?_
  refine c_iconst (v := 5) d_M_init_32 (by decide) ?_
  refine c_newI (N := 5) d_M_init_33 (rx_s1 53 rfl rfl) rfl (by decide) (by decide) (by decide) (Nat.le_of_ble_eq_true rfl) (Nat.le_of_ble_eq_true rfl) (fun a4 => ?_)
  refine c_put (q0 := 0) (wz := [(h0, .inr (12, [.int 0, .ref a1, .int 0, .int 0, .int 0, .int 0, .ref a2, .ref a3, .ref a4, .null, .null, .null, .null, .int 0, .int 0, .null, .null, .null, .null, .int 0, .null, .null, .null, .int 0, .int 0, .int 0, .int 0, .int 0, .int 0, .null, .int 0, .null, .null, .null, .int 0, .int 0, .int 0, .null, .int 0, .int 0, .null, .null, .int 0, .null, .int 0])), (a1, rc_r G 160), (a2, rc_r G 1700), (a3, rc_r G 1700), (a4, rc_r G 5)]) d_M_init_35 pz_M_19 rfl rfl rfl (Nat.le_of_ble_eq_true rfl) rfl ?_
  refine c_aload_n (i := 0) d_M_init_38 rfl rfl ?_
  refine c_iconst (v := 5) d_M_init_39 (by decide) ?_
  refine c_newI (N := 5) d_M_init_40 (rx_s1 53 rfl rfl) rfl (by decide) (by decide) (by decide) (Nat.le_of_ble_eq_true rfl) (Nat.le_of_ble_eq_true rfl) (fun a5 => ?_)
  refine c_put (q0 := 0) (wz := [(h0, .inr (12, [.int 0, .ref a1, .int 0, .int 0, .int 0, .int 0, .ref a2, .ref a3, .ref a4, .ref a5, .null, .null, .null, .int 0, .int 0, .null, .null, .null, .null, .int 0, .null, .null, .null, .int 0, .int 0, .int 0, .int 0, .int 0, .int 0, .null, .int 0, .null, .null, .null, .int 0, .int 0, .int 0, .null, .int 0, .int 0, .null, .null, .int 0, .null, .int 0])), (a1, rc_r G 160), (a2, rc_r G 1700), (a3, rc_r G 1700), (a4, rc_r G 5), (a5, rc_r G 5)]) d_M_init_42 pz_M_22 rfl rfl rfl (Nat.le_of_ble_eq_true rfl) rfl ?_
  refine c_aload_n (i := 0) d_M_init_45 rfl rfl ?_
  refine c_sipush (v := 450) d_M_init_46 (by decide) ?_
  refine c_newI (N := 450) d_M_init_49 (rx_s1 53 rfl rfl) rfl (by decide) (by decide) (by decide) (Nat.le_of_ble_eq_true rfl) (Nat.le_of_ble_eq_true rfl) (fun a6 => ?_)
  refine c_put (q0 := 0) (wz := [(h0, .inr (12, [.int 0, .ref a1, .int 0, .int 0, .int 0, .int 0, .ref a2, .ref a3, .ref a4, .ref a5, .ref a6, .null, .null, .int 0, .int 0, .null, .null, .null, .null, .int 0, .null, .null, .null, .int 0, .int 0, .int 0, .int 0, .int 0, .int 0, .null, .int 0, .null, .null, .null, .int 0, .int 0, .int 0, .null, .int 0, .int 0, .null, .null, .int 0, .null, .int 0])), (a1, rc_r G 160), (a2, rc_r G 1700), (a3, rc_r G 1700), (a4, rc_r G 5), (a5, rc_r G 5), (a6, rc_r G 450)]) d_M_init_51 pz_M_25 rfl rfl rfl (Nat.le_of_ble_eq_true rfl) rfl ?_
  refine c_aload_n (i := 0) d_M_init_54 rfl rfl ?_
  refine c_sipush (v := 450) d_M_init_55 (by decide) ?_
  refine c_newI (N := 450) d_M_init_58 (rx_s1 53 rfl rfl) rfl (by decide) (by decide) (by decide) (Nat.le_of_ble_eq_true rfl) (Nat.le_of_ble_eq_true rfl) (fun a7 => ?_)
  refine c_put (q0 := 0) (wz := [(h0, .inr (12, [.int 0, .ref a1, .int 0, .int 0, .int 0, .int 0, .ref a2, .ref a3, .ref a4, .ref a5, .ref a6, .ref a7, .null, .int 0, .int 0, .null, .null, .null, .null, .int 0, .null, .null, .null, .int 0, .int 0, .int 0, .int 0, .int 0, .int 0, .null, .int 0, .null, .null, .null, .int 0, .int 0, .int 0, .null, .int 0, .int 0, .null, .null, .int 0, .null, .int 0])), (a1, rc_r G 160), (a2, rc_r G 1700), (a3, rc_r G 1700), (a4, rc_r G 5), (a5, rc_r G 5), (a6, rc_r G 450), (a7, rc_r G 450)]) d_M_init_60 pz_M_28 rfl rfl rfl (Nat.le_of_ble_eq_true rfl) rfl ?_
  refine c_aload_n (i := 0) d_M_init_63 rfl rfl ?_
  refine c_sipush (v := 450) d_M_init_64 (by decide) ?_
  refine c_newI (N := 450) d_M_init_67 (rx_s1 53 rfl rfl) rfl (by decide) (by decide) (by decide) (Nat.le_of_ble_eq_true rfl) (Nat.le_of_ble_eq_true rfl) (fun a8 => ?_)
  refine c_put (q0 := 0) (wz := [(h0, .inr (12, [.int 0, .ref a1, .int 0, .int 0, .int 0, .int 0, .ref a2, .ref a3, .ref a4, .ref a5, .ref a6, .ref a7, .ref a8, .int 0, .int 0, .null, .null, .null, .null, .int 0, .null, .null, .null, .int 0, .int 0, .int 0, .int 0, .int 0, .int 0, .null, .int 0, .null, .null, .null, .int 0, .int 0, .int 0, .null, .int 0, .int 0, .null, .null, .int 0, .null, .int 0])), (a1, rc_r G 160), (a2, rc_r G 1700), (a3, rc_r G 1700), (a4, rc_r G 5), (a5, rc_r G 5), (a6, rc_r G 450), (a7, rc_r G 450), (a8, rc_r G 450)]) d_M_init_69 pz_M_31 rfl rfl rfl (Nat.le_of_ble_eq_true rfl) rfl ?_
  refine c_aload_n (i := 0) d_M_init_72 rfl rfl ?_
  refine c_bipush (v := 6) d_M_init_73 (by decide) ?_
  refine c_newI (N := 6) d_M_init_75 (rx_s1 53 rfl rfl) rfl (by decide) (by decide) (by decide) (Nat.le_of_ble_eq_true rfl) (Nat.le_of_ble_eq_true rfl) (fun a9 => ?_)
  refine c_put (q0 := 0) (wz := [(h0, .inr (12, [.int 0, .ref a1, .int 0, .int 0, .int 0, .int 0, .ref a2, .ref a3, .ref a4, .ref a5, .ref a6, .ref a7, .ref a8, .int 0, .int 0, .ref a9, .null, .null, .null, .int 0, .null, .null, .null, .int 0, .int 0, .int 0, .int 0, .int 0, .int 0, .null, .int 0, .null, .null, .null, .int 0, .int 0, .int 0, .null, .int 0, .int 0, .null, .null, .int 0, .null, .int 0])), (a1, rc_r G 160), (a2, rc_r G 1700), (a3, rc_r G 1700), (a4, rc_r G 5), (a5, rc_r G 5), (a6, rc_r G 450), (a7, rc_r G 450), (a8, rc_r G 450), (a9, rc_r G 6)]) d_M_init_77 pz_M_34 rfl rfl rfl (Nat.le_of_ble_eq_true rfl) rfl ?_
  refine c_aload_n (i := 0) d_M_init_80 rfl rfl ?_
  refine c_bipush (v := 80) d_M_init_81 (by decide) ?_
  refine c_newI (N := 80) d_M_init_83 (rx_s1 53 rfl rfl) rfl (by decide) (by decide) (by decide) (Nat.le_of_ble_eq_true rfl) (Nat.le_of_ble_eq_true rfl) (fun a10 => ?_)
  refine c_put (q0 := 0) (wz := [(h0, .inr (12, [.int 0, .ref a1, .int 0, .int 0, .int 0, .int 0, .ref a2, .ref a3, .ref a4, .ref a5, .ref a6, .ref a7, .ref a8, .int 0, .int 0, .ref a9, .ref a10, .null, .null, .int 0, .null, .null, .null, .int 0, .int 0, .int 0, .int 0, .int 0, .int 0, .null, .int 0, .null, .null, .null, .int 0, .int 0, .int 0, .null, .int 0, .int 0, .null, .null, .int 0, .null, .int 0])), (a1, rc_r G 160), (a2, rc_r G 1700), (a3, rc_r G 1700), (a4, rc_r G 5), (a5, rc_r G 5), (a6, rc_r G 450), (a7, rc_r G 450), (a8, rc_r G 450), (a9, rc_r G 6), (a10, rc_r G 80)]) d_M_init_85 pz_M_37 rfl rfl rfl (Nat.le_of_ble_eq_true rfl) rfl ?_
  refine c_aload_n (i := 0) d_M_init_88 rfl rfl ?_
  refine c_iconst (v := 4) d_M_init_89 (by decide) ?_
  refine c_newI (N := 4) d_M_init_90 (rx_s1 53 rfl rfl) rfl (by decide) (by decide) (by decide) (Nat.le_of_ble_eq_true rfl) (Nat.le_of_ble_eq_true rfl) (fun a11 => ?_)
  refine c_put (q0 := 0) (wz := [(h0, .inr (12, [.int 0, .ref a1, .int 0, .int 0, .int 0, .int 0, .ref a2, .ref a3, .ref a4, .ref a5, .ref a6, .ref a7, .ref a8, .int 0, .int 0, .ref a9, .ref a10, .ref a11, .null, .int 0, .null, .null, .null, .int 0, .int 0, .int 0, .int 0, .int 0, .int 0, .null, .int 0, .null, .null, .null, .int 0, .int 0, .int 0, .null, .int 0, .int 0, .null, .null, .int 0, .null, .int 0])), (a1, rc_r G 160), (a2, rc_r G 1700), (a3, rc_r G 1700), (a4, rc_r G 5), (a5, rc_r G 5), (a6, rc_r G 450), (a7, rc_r G 450), (a8, rc_r G 450), (a9, rc_r G 6), (a10, rc_r G 80), (a11, rc_r G 4)]) d_M_init_92 pz_M_40 rfl rfl rfl (Nat.le_of_ble_eq_true rfl) rfl ?_
  refine c_aload_n (i := 0) d_M_init_95 rfl rfl ?_
  refine c_bipush (v := 18) d_M_init_96 (by decide) ?_
  refine c_newI (N := 18) d_M_init_98 (rx_s1 53 rfl rfl) rfl (by decide) (by decide) (by decide) (Nat.le_of_ble_eq_true rfl) (Nat.le_of_ble_eq_true rfl) (fun a12 => ?_)
  refine c_put (q0 := 0) (wz := [(h0, .inr (12, [.int 0, .ref a1, .int 0, .int 0, .int 0, .int 0, .ref a2, .ref a3, .ref a4, .ref a5, .ref a6, .ref a7, .ref a8, .int 0, .int 0, .ref a9, .ref a10, .ref a11, .ref a12, .int 0, .null, .null, .null, .int 0, .int 0, .int 0, .int 0, .int 0, .int 0, .null, .int 0, .null, .null, .null, .int 0, .int 0, .int 0, .null, .int 0, .int 0, .null, .null, .int 0, .null, .int 0])), (a1, rc_r G 160), (a2, rc_r G 1700), (a3, rc_r G 1700), (a4, rc_r G 5), (a5, rc_r G 5), (a6, rc_r G 450), (a7, rc_r G 450), (a8, rc_r G 450), (a9, rc_r G 6), (a10, rc_r G 80), (a11, rc_r G 4), (a12, rc_r G 18)]) d_M_init_100 pz_M_43 rfl rfl rfl (Nat.le_of_ble_eq_true rfl) rfl ?_
  refine c_aload_n (i := 0) d_M_init_103 rfl rfl ?_
  refine c_bipush (v := 6) d_M_init_104 (by decide) ?_
  refine c_newI (N := 6) d_M_init_106 (rx_s1 53 rfl rfl) rfl (by decide) (by decide) (by decide) (Nat.le_of_ble_eq_true rfl) (Nat.le_of_ble_eq_true rfl) (fun a13 => ?_)
  refine c_put (q0 := 0) (wz := [(h0, .inr (12, [.int 0, .ref a1, .int 0, .int 0, .int 0, .int 0, .ref a2, .ref a3, .ref a4, .ref a5, .ref a6, .ref a7, .ref a8, .int 0, .int 0, .ref a9, .ref a10, .ref a11, .ref a12, .int 0, .ref a13, .null, .null, .int 0, .int 0, .int 0, .int 0, .int 0, .int 0, .null, .int 0, .null, .null, .null, .int 0, .int 0, .int 0, .null, .int 0, .int 0, .null, .null, .int 0, .null, .int 0])), (a1, rc_r G 160), (a2, rc_r G 1700), (a3, rc_r G 1700), (a4, rc_r G 5), (a5, rc_r G 5), (a6, rc_r G 450), (a7, rc_r G 450), (a8, rc_r G 450), (a9, rc_r G 6), (a10, rc_r G 80), (a11, rc_r G 4), (a12, rc_r G 18), (a13, rc_r G 6)]) d_M_init_108 pz_M_46 rfl rfl rfl (Nat.le_of_ble_eq_true rfl) rfl ?_
  refine c_aload_n (i := 0) d_M_init_111 rfl rfl ?_
  refine c_bipush (v := 6) d_M_init_112 (by decide) ?_
  refine c_newI (N := 6) d_M_init_114 (rx_s1 53 rfl rfl) rfl (by decide) (by decide) (by decide) (Nat.le_of_ble_eq_true rfl) (Nat.le_of_ble_eq_true rfl) (fun a14 => ?_)
  refine c_put (q0 := 0) (wz := [(h0, .inr (12, [.int 0, .ref a1, .int 0, .int 0, .int 0, .int 0, .ref a2, .ref a3, .ref a4, .ref a5, .ref a6, .ref a7, .ref a8, .int 0, .int 0, .ref a9, .ref a10, .ref a11, .ref a12, .int 0, .ref a13, .ref a14, .null, .int 0, .int 0, .int 0, .int 0, .int 0, .int 0, .null, .int 0, .null, .null, .null, .int 0, .int 0, .int 0, .null, .int 0, .int 0, .null, .null, .int 0, .null, .int 0])), (a1, rc_r G 160), (a2, rc_r G 1700), (a3, rc_r G 1700), (a4, rc_r G 5), (a5, rc_r G 5), (a6, rc_r G 450), (a7, rc_r G 450), (a8, rc_r G 450), (a9, rc_r G 6), (a10, rc_r G 80), (a11, rc_r G 4), (a12, rc_r G 18), (a13, rc_r G 6), (a14, rc_r G 6)]) d_M_init_116 pz_M_49 rfl rfl rfl (Nat.le_of_ble_eq_true rfl) rfl ?_
  refine c_aload_n (i := 0) d_M_init_119 rfl rfl ?_
  refine c_bipush (v := 6) d_M_init_120 (by decide) ?_
  refine c_newI (N := 6) d_M_init_122 (rx_s1 53 rfl rfl) rfl (by decide) (by decide) (by decide) (Nat.le_of_ble_eq_true rfl) (Nat.le_of_ble_eq_true rfl) (fun a15 => ?_)
  refine c_put (q0 := 0) (wz := [(h0, .inr (12, [.int 0, .ref a1, .int 0, .int 0, .int 0, .int 0, .ref a2, .ref a3, .ref a4, .ref a5, .ref a6, .ref a7, .ref a8, .int 0, .int 0, .ref a9, .ref a10, .ref a11, .ref a12, .int 0, .ref a13, .ref a14, .ref a15, .int 0, .int 0, .int 0, .int 0, .int 0, .int 0, .null, .int 0, .null, .null, .null, .int 0, .int 0, .int 0, .null, .int 0, .int 0, .null, .null, .int 0, .null, .int 0])), (a1, rc_r G 160), (a2, rc_r G 1700), (a3, rc_r G 1700), (a4, rc_r G 5), (a5, rc_r G 5), (a6, rc_r G 450), (a7, rc_r G 450), (a8, rc_r G 450), (a9, rc_r G 6), (a10, rc_r G 80), (a11, rc_r G 4), (a12, rc_r G 18), (a13, rc_r G 6), (a14, rc_r G 6), (a15, rc_r G 6)]) d_M_init_124 pz_M_52 rfl rfl rfl (Nat.le_of_ble_eq_true rfl) rfl ?_
  refine c_aload_n (i := 0) d_M_init_127 rfl rfl ?_
  refine c_iconst (v := (-1)) d_M_init_128 (by decide) ?_
  refine c_put (q0 := 0) (wz := [(h0, .inr (12, [.int 0, .ref a1, .int 0, .int 0, .int 0, .int 0, .ref a2, .ref a3, .ref a4, .ref a5, .ref a6, .ref a7, .ref a8, .int 0, .int 0, .ref a9, .ref a10, .ref a11, .ref a12, .int 0, .ref a13, .ref a14, .ref a15, .int 0, .int 0, .int 0, .int 0, .int 0, .int (-1), .null, .int 0, .null, .null, .null, .int 0, .int 0, .int 0, .null, .int 0, .int 0, .null, .null, .int 0, .null, .int 0])), (a1, rc_r G 160), (a2, rc_r G 1700), (a3, rc_r G 1700), (a4, rc_r G 5), (a5, rc_r G 5), (a6, rc_r G 450), (a7, rc_r G 450), (a8, rc_r G 450), (a9, rc_r G 6), (a10, rc_r G 80), (a11, rc_r G 4), (a12, rc_r G 18), (a13, rc_r G 6), (a14, rc_r G 6), (a15, rc_r G 6)]) d_M_init_129 pz_M_55 rfl rfl rfl (Nat.le_of_ble_eq_true rfl) rfl ?_
  refine c_aload_n (i := 0) d_M_init_132 rfl rfl ?_
  refine c_sipush (v := 520) d_M_init_133 (by decide) ?_
  refine c_newI (N := 520) d_M_init_136 (rx_s1 53 rfl rfl) rfl (by decide) (by decide) (by decide) (Nat.le_of_ble_eq_true rfl) (Nat.le_of_ble_eq_true rfl) (fun a16 => ?_)
  refine c_put (q0 := 0) (wz := [(h0, .inr (12, [.int 0, .ref a1, .int 0, .int 0, .int 0, .int 0, .ref a2, .ref a3, .ref a4, .ref a5, .ref a6, .ref a7, .ref a8, .int 0, .int 0, .ref a9, .ref a10, .ref a11, .ref a12, .int 0, .ref a13, .ref a14, .ref a15, .int 0, .int 0, .int 0, .int 0, .int 0, .int (-1), .ref a16, .int 0, .null, .null, .null, .int 0, .int 0, .int 0, .null, .int 0, .int 0, .null, .null, .int 0, .null, .int 0])), (a1, rc_r G 160), (a2, rc_r G 1700), (a3, rc_r G 1700), (a4, rc_r G 5), (a5, rc_r G 5), (a6, rc_r G 450), (a7, rc_r G 450), (a8, rc_r G 450), (a9, rc_r G 6), (a10, rc_r G 80), (a11, rc_r G 4), (a12, rc_r G 18), (a13, rc_r G 6), (a14, rc_r G 6), (a15, rc_r G 6), (a16, rc_r G 520)]) d_M_init_138 pz_M_59 rfl rfl rfl (Nat.le_of_ble_eq_true rfl) rfl ?_
  refine c_aload_n (i := 0) d_M_init_141 rfl rfl ?_
  refine c_sipush (v := 441) d_M_init_142 (by decide) ?_
  refine c_newI (N := 441) d_M_init_145 (rx_s1 53 rfl rfl) rfl (by decide) (by decide) (by decide) (Nat.le_of_ble_eq_true rfl) (Nat.le_of_ble_eq_true rfl) (fun a17 => ?_)
  refine c_put (q0 := 0) (wz := [(h0, .inr (12, [.int 0, .ref a1, .int 0, .int 0, .int 0, .int 0, .ref a2, .ref a3, .ref a4, .ref a5, .ref a6, .ref a7, .ref a8, .int 0, .int 0, .ref a9, .ref a10, .ref a11, .ref a12, .int 0, .ref a13, .ref a14, .ref a15, .int 0, .int 0, .int 0, .int 0, .int 0, .int (-1), .ref a16, .int 0, .ref a17, .null, .null, .int 0, .int 0, .int 0, .null, .int 0, .int 0, .null, .null, .int 0, .null, .int 0])), (a1, rc_r G 160), (a2, rc_r G 1700), (a3, rc_r G 1700), (a4, rc_r G 5), (a5, rc_r G 5), (a6, rc_r G 450), (a7, rc_r G 450), (a8, rc_r G 450), (a9, rc_r G 6), (a10, rc_r G 80), (a11, rc_r G 4), (a12, rc_r G 18), (a13, rc_r G 6), (a14, rc_r G 6), (a15, rc_r G 6), (a16, rc_r G 520), (a17, rc_r G 441)]) d_M_init_147 pz_M_62 rfl rfl rfl (Nat.le_of_ble_eq_true rfl) rfl ?_
  refine c_aload_n (i := 0) d_M_init_150 rfl rfl ?_
  refine c_sipush (v := 441) d_M_init_151 (by decide) ?_
  refine c_newI (N := 441) d_M_init_154 (rx_s1 53 rfl rfl) rfl (by decide) (by decide) (by decide) (Nat.le_of_ble_eq_true rfl) (Nat.le_of_ble_eq_true rfl) (fun a18 => ?_)
  refine c_put (q0 := 0) (wz := [(h0, .inr (12, [.int 0, .ref a1, .int 0, .int 0, .int 0, .int 0, .ref a2, .ref a3, .ref a4, .ref a5, .ref a6, .ref a7, .ref a8, .int 0, .int 0, .ref a9, .ref a10, .ref a11, .ref a12, .int 0, .ref a13, .ref a14, .ref a15, .int 0, .int 0, .int 0, .int 0, .int 0, .int (-1), .ref a16, .int 0, .ref a17, .ref a18, .null, .int 0, .int 0, .int 0, .null, .int 0, .int 0, .null, .null, .int 0, .null, .int 0])), (a1, rc_r G 160), (a2, rc_r G 1700), (a3, rc_r G 1700), (a4, rc_r G 5), (a5, rc_r G 5), (a6, rc_r G 450), (a7, rc_r G 450), (a8, rc_r G 450), (a9, rc_r G 6), (a10, rc_r G 80), (a11, rc_r G 4), (a12, rc_r G 18), (a13, rc_r G 6), (a14, rc_r G 6), (a15, rc_r G 6), (a16, rc_r G 520), (a17, rc_r G 441), (a18, rc_r G 441)]) d_M_init_156 pz_M_65 rfl rfl rfl (Nat.le_of_ble_eq_true rfl) rfl ?_
  refine c_aload_n (i := 0) d_M_init_159 rfl rfl ?_
  refine c_sipush (v := 441) d_M_init_160 (by decide) ?_
  refine c_newI (N := 441) d_M_init_163 (rx_s1 53 rfl rfl) rfl (by decide) (by decide) (by decide) (Nat.le_of_ble_eq_true rfl) (Nat.le_of_ble_eq_true rfl) (fun a19 => ?_)
  refine c_put (q0 := 0) (wz := [(h0, .inr (12, [.int 0, .ref a1, .int 0, .int 0, .int 0, .int 0, .ref a2, .ref a3, .ref a4, .ref a5, .ref a6, .ref a7, .ref a8, .int 0, .int 0, .ref a9, .ref a10, .ref a11, .ref a12, .int 0, .ref a13, .ref a14, .ref a15, .int 0, .int 0, .int 0, .int 0, .int 0, .int (-1), .ref a16, .int 0, .ref a17, .ref a18, .ref a19, .int 0, .int 0, .int 0, .null, .int 0, .int 0, .null, .null, .int 0, .null, .int 0])), (a1, rc_r G 160), (a2, rc_r G 1700), (a3, rc_r G 1700), (a4, rc_r G 5), (a5, rc_r G 5), (a6, rc_r G 450), (a7, rc_r G 450), (a8, rc_r G 450), (a9, rc_r G 6), (a10, rc_r G 80), (a11, rc_r G 4), (a12, rc_r G 18), (a13, rc_r G 6), (a14, rc_r G 6), (a15, rc_r G 6), (a16, rc_r G 520), (a17, rc_r G 441), (a18, rc_r G 441), (a19, rc_r G 441)]) d_M_init_165 pz_M_68 rfl rfl rfl (Nat.le_of_ble_eq_true rfl) rfl ?_
  refine c_aload_n (i := 0) d_M_init_168 rfl rfl ?_
  refine c_sipush (v := 360) d_M_init_169 (by decide) ?_
  refine c_newI (N := 360) d_M_init_172 (rx_s1 53 rfl rfl) rfl (by decide) (by decide) (by decide) (Nat.le_of_ble_eq_true rfl) (Nat.le_of_ble_eq_true rfl) (fun a20 => ?_)
  refine c_put (q0 := 0) (wz := [(h0, .inr (12, [.int 0, .ref a1, .int 0, .int 0, .int 0, .int 0, .ref a2, .ref a3, .ref a4, .ref a5, .ref a6, .ref a7, .ref a8, .int 0, .int 0, .ref a9, .ref a10, .ref a11, .ref a12, .int 0, .ref a13, .ref a14, .ref a15, .int 0, .int 0, .int 0, .int 0, .int 0, .int (-1), .ref a16, .int 0, .ref a17, .ref a18, .ref a19, .int 0, .int 0, .int 0, .ref a20, .int 0, .int 0, .null, .null, .int 0, .null, .int 0])), (a1, rc_r G 160), (a2, rc_r G 1700), (a3, rc_r G 1700), (a4, rc_r G 5), (a5, rc_r G 5), (a6, rc_r G 450), (a7, rc_r G 450), (a8, rc_r G 450), (a9, rc_r G 6), (a10, rc_r G 80), (a11, rc_r G 4), (a12, rc_r G 18), (a13, rc_r G 6), (a14, rc_r G 6), (a15, rc_r G 6), (a16, rc_r G 520), (a17, rc_r G 441), (a18, rc_r G 441), (a19, rc_r G 441), (a20, rc_r G 360)]) d_M_init_174 pz_M_71 rfl rfl rfl (Nat.le_of_ble_eq_true rfl) rfl ?_
  refine c_aload_n (i := 0) d_M_init_177 rfl rfl ?_
  refine c_bipush (v := 12) d_M_init_178 (by decide) ?_
  refine c_newI (N := 12) d_M_init_180 (rx_s1 53 rfl rfl) rfl (by decide) (by decide) (by decide) (Nat.le_of_ble_eq_true rfl) (Nat.le_of_ble_eq_true rfl) (fun a21 => ?_)
  refine c_put (q0 := 0) (wz := [(h0, .inr (12, [.int 0, .ref a1, .int 0, .int 0, .int 0, .int 0, .ref a2, .ref a3, .ref a4, .ref a5, .ref a6, .ref a7, .ref a8, .int 0, .int 0, .ref a9, .ref a10, .ref a11, .ref a12, .int 0, .ref a13, .ref a14, .ref a15, .int 0, .int 0, .int 0, .int 0, .int 0, .int (-1), .ref a16, .int 0, .ref a17, .ref a18, .ref a19, .int 0, .int 0, .int 0, .ref a20, .int 0, .int 0, .ref a21, .null, .int 0, .null, .int 0])), (a1, rc_r G 160), (a2, rc_r G 1700), (a3, rc_r G 1700), (a4, rc_r G 5), (a5, rc_r G 5), (a6, rc_r G 450), (a7, rc_r G 450), (a8, rc_r G 450), (a9, rc_r G 6), (a10, rc_r G 80), (a11, rc_r G 4), (a12, rc_r G 18), (a13, rc_r G 6), (a14, rc_r G 6), (a15, rc_r G 6), (a16, rc_r G 520), (a17, rc_r G 441), (a18, rc_r G 441), (a19, rc_r G 441), (a20, rc_r G 360), (a21, rc_r G 12)]) d_M_init_182 pz_M_74 rfl rfl rfl (Nat.le_of_ble_eq_true rfl) rfl ?_
  refine c_aload_n (i := 0) d_M_init_185 rfl rfl ?_
  refine c_bipush (v := 12) d_M_init_186 (by decide) ?_
  refine c_newI (N := 12) d_M_init_188 (rx_s1 53 rfl rfl) rfl (by decide) (by decide) (by decide) (Nat.le_of_ble_eq_true rfl) (Nat.le_of_ble_eq_true rfl) (fun a22 => ?_)
  refine c_put (q0 := 0) (wz := [(h0, .inr (12, [.int 0, .ref a1, .int 0, .int 0, .int 0, .int 0, .ref a2, .ref a3, .ref a4, .ref a5, .ref a6, .ref a7, .ref a8, .int 0, .int 0, .ref a9, .ref a10, .ref a11, .ref a12, .int 0, .ref a13, .ref a14, .ref a15, .int 0, .int 0, .int 0, .int 0, .int 0, .int (-1), .ref a16, .int 0, .ref a17, .ref a18, .ref a19, .int 0, .int 0, .int 0, .ref a20, .int 0, .int 0, .ref a21, .ref a22, .int 0, .null, .int 0])), (a1, rc_r G 160), (a2, rc_r G 1700), (a3, rc_r G 1700), (a4, rc_r G 5), (a5, rc_r G 5), (a6, rc_r G 450), (a7, rc_r G 450), (a8, rc_r G 450), (a9, rc_r G 6), (a10, rc_r G 80), (a11, rc_r G 4), (a12, rc_r G 18), (a13, rc_r G 6), (a14, rc_r G 6), (a15, rc_r G 6), (a16, rc_r G 520), (a17, rc_r G 441), (a18, rc_r G 441), (a19, rc_r G 441), (a20, rc_r G 360), (a21, rc_r G 12), (a22, rc_r G 12)]) d_M_init_190 pz_M_77 rfl rfl rfl (Nat.le_of_ble_eq_true rfl) rfl ?_
  refine c_aload_n (i := 0) d_M_init_193 rfl rfl ?_
  refine c_bipush (v := 13) d_M_init_194 (by decide) ?_
  refine c_newI (N := 13) d_M_init_196 (rx_s1 53 rfl rfl) rfl (by decide) (by decide) (by decide) (Nat.le_of_ble_eq_true rfl) (Nat.le_of_ble_eq_true rfl) (fun a23 => ?_)
  refine c_put (q0 := 0) (wz := [(h0, .inr (12, [.int 0, .ref a1, .int 0, .int 0, .int 0, .int 0, .ref a2, .ref a3, .ref a4, .ref a5, .ref a6, .ref a7, .ref a8, .int 0, .int 0, .ref a9, .ref a10, .ref a11, .ref a12, .int 0, .ref a13, .ref a14, .ref a15, .int 0, .int 0, .int 0, .int 0, .int 0, .int (-1), .ref a16, .int 0, .ref a17, .ref a18, .ref a19, .int 0, .int 0, .int 0, .ref a20, .int 0, .int 0, .ref a21, .ref a22, .int 0, .ref a23, .int 0])), (a1, rc_r G 160), (a2, rc_r G 1700), (a3, rc_r G 1700), (a4, rc_r G 5), (a5, rc_r G 5), (a6, rc_r G 450), (a7, rc_r G 450), (a8, rc_r G 450), (a9, rc_r G 6), (a10, rc_r G 80), (a11, rc_r G 4), (a12, rc_r G 18), (a13, rc_r G 6), (a14, rc_r G 6), (a15, rc_r G 6), (a16, rc_r G 520), (a17, rc_r G 441), (a18, rc_r G 441), (a19, rc_r G 441), (a20, rc_r G 360), (a21, rc_r G 12), (a22, rc_r G 12), (a23, rc_r G 13)]) d_M_init_198 pz_M_80 rfl rfl rfl (Nat.le_of_ble_eq_true rfl) rfl ?_
  refine c_vret d_M_init_201 rfl rfl rfl ?_
  exact ⟨a1, a2, a3, a4, a5, a6, a7, a8, a9, a10, a11, a12, a13, a14, a15, a16, a17, a18, a19, a20, a21, a22, a23, rfl⟩

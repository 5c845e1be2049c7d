theorem d_Ph_shows_0 : decode q_Ph_shows.2.1 0 = .ok (.aload_n 0, 1) := by decide +kernel
theorem d_Ph_shows_1 : decode q_Ph_shows.2.1 1 = .ok (.getfield 18, 3) := by decide +kernel
theorem d_Ph_shows_4 : decode q_Ph_shows.2.1 4 = .ok (.iload_n 1, 1) := by decide +kernel
theorem d_Ph_shows_5 : decode q_Ph_shows.2.1 5 = .ok (.invokevirtual 30, 3) := by decide +kernel
theorem ml_Ph_30 : rx_CV "GlassRoom$Photos" 30 q_Ha_has 1 := ⟨⟨(rx_s4 234 rfl rfl), (rx_s3 129 rfl rfl), (rx_s3 130 rfl rfl)⟩, ⟨(rx_s1 3 rfl rfl), q_Ha_has_k, ⟨by decide, by decide, by decide +kernel⟩, by decide⟩⟩
theorem d_Ph_shows_8 : decode q_Ph_shows.2.1 8 = .ok (.ifCond .ne 5, 3) := by decide +kernel
theorem d_Ph_shows_11 : decode q_Ph_shows.2.1 11 = .ok (.iconst 0, 1) := by decide +kernel
theorem d_Ph_shows_12 : decode q_Ph_shows.2.1 12 = .ok (.ireturn, 1) := by decide +kernel
theorem d_Ph_shows_13 : decode q_Ph_shows.2.1 13 = .ok (.iconst 2, 1) := by decide +kernel
theorem d_Ph_shows_14 : decode q_Ph_shows.2.1 14 = .ok (.aload_n 0, 1) := by decide +kernel
theorem d_Ph_shows_15 : decode q_Ph_shows.2.1 15 = .ok (.getfield 18, 3) := by decide +kernel
theorem d_Ph_shows_18 : decode q_Ph_shows.2.1 18 = .ok (.getfield 36, 3) := by decide +kernel
theorem d_Ph_shows_21 : decode q_Ph_shows.2.1 21 = .ok (.invokestatic 39, 3) := by decide +kernel
theorem ml_Ph_39 : rx_CS "GlassRoom$Photos" 39 q_Ha_highI 1 := ⟨⟨(rx_s4 235 rfl rfl), (rx_s3 205 rfl rfl)⟩, ⟨(rx_s1 3 rfl rfl), q_Ha_highI_k, ⟨by decide, by decide, by decide +kernel⟩, by decide⟩⟩
theorem d_Ph_shows_24 : decode q_Ph_shows.2.1 24 = .ok (.invokestatic 43, 3) := by decide +kernel
theorem d_Ph_shows_27 : decode q_Ph_shows.2.1 27 = .ok (.istore 5, 2) := by decide +kernel
theorem d_Ph_shows_29 : decode q_Ph_shows.2.1 29 = .ok (.bipush (-2), 2) := by decide +kernel
theorem d_Ph_shows_31 : decode q_Ph_shows.2.1 31 = .ok (.aload_n 0, 1) := by decide +kernel
theorem d_Ph_shows_32 : decode q_Ph_shows.2.1 32 = .ok (.getfield 18, 3) := by decide +kernel
theorem d_Ph_shows_35 : decode q_Ph_shows.2.1 35 = .ok (.getfield 36, 3) := by decide +kernel
theorem d_Ph_shows_38 : decode q_Ph_shows.2.1 38 = .ok (.invokestatic 49, 3) := by decide +kernel
theorem ml_Ph_49 : rx_CS "GlassRoom$Photos" 49 q_Ha_lowI 1 := ⟨⟨(rx_s4 237 rfl rfl), (rx_s3 199 rfl rfl)⟩, ⟨(rx_s1 3 rfl rfl), q_Ha_lowI_k, ⟨by decide, by decide, by decide +kernel⟩, by decide⟩⟩
theorem d_Ph_shows_41 : decode q_Ph_shows.2.1 41 = .ok (.invokestatic 52, 3) := by decide +kernel
theorem d_Ph_shows_44 : decode q_Ph_shows.2.1 44 = .ok (.istore 6, 2) := by decide +kernel
theorem d_Ph_shows_46 : decode q_Ph_shows.2.1 46 = .ok (.iload 6, 2) := by decide +kernel
theorem d_Ph_shows_48 : decode q_Ph_shows.2.1 48 = .ok (.iload 5, 2) := by decide +kernel
theorem d_Ph_shows_50 : decode q_Ph_shows.2.1 50 = .ok (.if_icmp .gt 62, 3) := by decide +kernel
theorem d_Ph_shows_112 : decode q_Ph_shows.2.1 112 = .ok (.iconst 0, 1) := by decide +kernel
theorem d_Ph_shows_113 : decode q_Ph_shows.2.1 113 = .ok (.ireturn, 1) := by decide +kernel
theorem d_Ph_shows_53 : decode q_Ph_shows.2.1 53 = .ok (.iload 6, 2) := by decide +kernel
theorem d_Ph_shows_55 : decode q_Ph_shows.2.1 55 = .ok (.aload_n 0, 1) := by decide +kernel
theorem d_Ph_shows_56 : decode q_Ph_shows.2.1 56 = .ok (.getfield 18, 3) := by decide +kernel
theorem d_Ph_shows_59 : decode q_Ph_shows.2.1 59 = .ok (.getfield 55, 3) := by decide +kernel
theorem fl_Ph_55 : rx_F "GlassRoom$Photos" 55 3 5 := ⟨(RX3, TX3, 9), rfl, by decide, (rx_s1 90 rfl rfl), rx_T3⟩
theorem d_Ph_shows_62 : decode q_Ph_shows.2.1 62 = .ok (.iload_n 3, 1) := by decide +kernel
theorem d_Ph_shows_63 : decode q_Ph_shows.2.1 63 = .ok (.invokestatic 58, 3) := by decide +kernel
theorem d_Ph_shows_66 : decode q_Ph_shows.2.1 66 = .ok (.aload_n 0, 1) := by decide +kernel
theorem d_Ph_shows_67 : decode q_Ph_shows.2.1 67 = .ok (.getfield 18, 3) := by decide +kernel
theorem d_Ph_shows_70 : decode q_Ph_shows.2.1 70 = .ok (.getfield 62, 3) := by decide +kernel
theorem fl_Ph_62 : rx_F "GlassRoom$Photos" 62 3 0 := ⟨(RX3, TX3, 9), rfl, by decide, (rx_s1 64 rfl rfl), rx_T3⟩
theorem d_Ph_shows_73 : decode q_Ph_shows.2.1 73 = .ok (.iload_n 1, 1) := by decide +kernel
theorem d_Ph_shows_74 : decode q_Ph_shows.2.1 74 = .ok (.iaload, 1) := by decide +kernel
theorem d_Ph_shows_75 : decode q_Ph_shows.2.1 75 = .ok (.isub, 1) := by decide +kernel
theorem d_Ph_shows_76 : decode q_Ph_shows.2.1 76 = .ok (.istore 7, 2) := by decide +kernel
theorem d_Ph_shows_78 : decode q_Ph_shows.2.1 78 = .ok (.iload 7, 2) := by decide +kernel
theorem d_Ph_shows_80 : decode q_Ph_shows.2.1 80 = .ok (.iload 7, 2) := by decide +kernel
theorem d_Ph_shows_82 : decode q_Ph_shows.2.1 82 = .ok (.imul, 1) := by decide +kernel
theorem d_Ph_shows_83 : decode q_Ph_shows.2.1 83 = .ok (.iload_n 2, 1) := by decide +kernel
theorem d_Ph_shows_84 : decode q_Ph_shows.2.1 84 = .ok (.if_icmp .gt 22, 3) := by decide +kernel
theorem d_Ph_shows_106 : decode q_Ph_shows.2.1 106 = .ok (.iinc 6 1, 3) := by decide +kernel
theorem d_Ph_shows_109 : decode q_Ph_shows.2.1 109 = .ok (.goto (-63), 3) := by decide +kernel
theorem d_Ph_shows_87 : decode q_Ph_shows.2.1 87 = .ok (.aload_n 0, 1) := by decide +kernel
theorem d_Ph_shows_88 : decode q_Ph_shows.2.1 88 = .ok (.iload_n 1, 1) := by decide +kernel
theorem d_Ph_shows_89 : decode q_Ph_shows.2.1 89 = .ok (.iload_n 2, 1) := by decide +kernel
theorem d_Ph_shows_90 : decode q_Ph_shows.2.1 90 = .ok (.iload 7, 2) := by decide +kernel
theorem d_Ph_shows_92 : decode q_Ph_shows.2.1 92 = .ok (.iload 7, 2) := by decide +kernel
theorem d_Ph_shows_94 : decode q_Ph_shows.2.1 94 = .ok (.imul, 1) := by decide +kernel
theorem d_Ph_shows_95 : decode q_Ph_shows.2.1 95 = .ok (.isub, 1) := by decide +kernel
theorem d_Ph_shows_96 : decode q_Ph_shows.2.1 96 = .ok (.iload 4, 2) := by decide +kernel
theorem d_Ph_shows_98 : decode q_Ph_shows.2.1 98 = .ok (.invokevirtual 65, 3) := by decide +kernel
theorem ml_Ph_65 : rx_CV "GlassRoom$Photos" 65 q_Ph_showsUp 3 := ⟨⟨(rx_s5 0 rfl rfl), (rx_s5 2 rfl rfl), (rx_s0 21 rfl rfl)⟩, ⟨(rx_s1 12 rfl rfl), q_Ph_showsUp_k, ⟨by decide, by decide, by decide +kernel⟩, by decide⟩⟩
theorem d_Ph_shows_101 : decode q_Ph_shows.2.1 101 = .ok (.ifCond .eq 5, 3) := by decide +kernel
theorem d_Ph_shows_104 : decode q_Ph_shows.2.1 104 = .ok (.iconst 1, 1) := by decide +kernel
theorem d_Ph_shows_105 : decode q_Ph_shows.2.1 105 = .ok (.ireturn, 1) := by decide +kernel
theorem d_Ph_allShow_0 : decode q_Ph_allShow.2.1 0 = .ok (.iconst 0, 1) := by decide +kernel
theorem d_Ph_allShow_1 : decode q_Ph_allShow.2.1 1 = .ok (.istore_n 3, 1) := by decide +kernel
theorem d_Ph_allShow_2 : decode q_Ph_allShow.2.1 2 = .ok (.iload_n 3, 1) := by decide +kernel
theorem d_Ph_allShow_3 : decode q_Ph_allShow.2.1 3 = .ok (.aload_n 0, 1) := by decide +kernel
theorem d_Ph_allShow_4 : decode q_Ph_allShow.2.1 4 = .ok (.getfield 22, 3) := by decide +kernel
theorem d_Ph_allShow_7 : decode q_Ph_allShow.2.1 7 = .ok (.if_icmp .ge 38, 3) := by decide +kernel
theorem d_Ph_allShow_45 : decode q_Ph_allShow.2.1 45 = .ok (.iconst 1, 1) := by decide +kernel
theorem d_Ph_allShow_46 : decode q_Ph_allShow.2.1 46 = .ok (.ireturn, 1) := by decide +kernel
theorem d_Ph_allShow_10 : decode q_Ph_allShow.2.1 10 = .ok (.iload_n 3, 1) := by decide +kernel
theorem d_Ph_allShow_11 : decode q_Ph_allShow.2.1 11 = .ok (.bipush 12, 2) := by decide +kernel
theorem d_Ph_allShow_13 : decode q_Ph_allShow.2.1 13 = .ok (.if_icmp .ge 32, 3) := by decide +kernel
theorem d_Ph_allShow_16 : decode q_Ph_allShow.2.1 16 = .ok (.aload_n 0, 1) := by decide +kernel
theorem d_Ph_allShow_17 : decode q_Ph_allShow.2.1 17 = .ok (.aload_n 0, 1) := by decide +kernel
theorem d_Ph_allShow_18 : decode q_Ph_allShow.2.1 18 = .ok (.getfield 9, 3) := by decide +kernel
theorem d_Ph_allShow_21 : decode q_Ph_allShow.2.1 21 = .ok (.iload_n 3, 1) := by decide +kernel
theorem d_Ph_allShow_22 : decode q_Ph_allShow.2.1 22 = .ok (.iaload, 1) := by decide +kernel
theorem d_Ph_allShow_23 : decode q_Ph_allShow.2.1 23 = .ok (.aload_n 0, 1) := by decide +kernel
theorem d_Ph_allShow_24 : decode q_Ph_allShow.2.1 24 = .ok (.getfield 15, 3) := by decide +kernel
theorem d_Ph_allShow_27 : decode q_Ph_allShow.2.1 27 = .ok (.iload_n 3, 1) := by decide +kernel
theorem d_Ph_allShow_28 : decode q_Ph_allShow.2.1 28 = .ok (.iaload, 1) := by decide +kernel
theorem d_Ph_allShow_29 : decode q_Ph_allShow.2.1 29 = .ok (.iload_n 1, 1) := by decide +kernel
theorem d_Ph_allShow_30 : decode q_Ph_allShow.2.1 30 = .ok (.iload_n 2, 1) := by decide +kernel
theorem d_Ph_allShow_31 : decode q_Ph_allShow.2.1 31 = .ok (.invokevirtual 26, 3) := by decide +kernel
theorem ml_Ph_26 : rx_CV "GlassRoom$Photos" 26 q_Ph_shows 4 := ⟨⟨(rx_s4 230 rfl rfl), (rx_s4 232 rfl rfl), (rx_s0 20 rfl rfl)⟩, ⟨(rx_s1 12 rfl rfl), q_Ph_shows_k, ⟨by decide, by decide, by decide +kernel⟩, by decide⟩⟩
theorem d_Ph_allShow_34 : decode q_Ph_allShow.2.1 34 = .ok (.ifCond .ne 5, 3) := by decide +kernel
theorem d_Ph_allShow_37 : decode q_Ph_allShow.2.1 37 = .ok (.iconst 0, 1) := by decide +kernel
theorem d_Ph_allShow_38 : decode q_Ph_allShow.2.1 38 = .ok (.ireturn, 1) := by decide +kernel
theorem d_Ph_allShow_39 : decode q_Ph_allShow.2.1 39 = .ok (.iinc 3 1, 3) := by decide +kernel
theorem d_Ph_allShow_42 : decode q_Ph_allShow.2.1 42 = .ok (.goto (-40), 3) := by decide +kernel
theorem d_GR_fits_0 : decode q_GR_fits.2.1 0 = .ok (.aload_n 0, 1) := by decide +kernel
theorem d_GR_fits_1 : decode q_GR_fits.2.1 1 = .ok (.getfield 19, 3) := by decide +kernel
theorem d_GR_fits_4 : decode q_GR_fits.2.1 4 = .ok (.invokevirtual 171, 3) := by decide +kernel
theorem d_GR_fits_7 : decode q_GR_fits.2.1 7 = .ok (.ifCond .ne 5, 3) := by decide +kernel
theorem d_GR_fits_10 : decode q_GR_fits.2.1 10 = .ok (.iconst (-1), 1) := by decide +kernel
theorem d_GR_fits_11 : decode q_GR_fits.2.1 11 = .ok (.ireturn, 1) := by decide +kernel
theorem d_GR_fits_12 : decode q_GR_fits.2.1 12 = .ok (.iconst 0, 1) := by decide +kernel
theorem d_GR_fits_13 : decode q_GR_fits.2.1 13 = .ok (.istore_n 2, 1) := by decide +kernel
theorem d_GR_fits_14 : decode q_GR_fits.2.1 14 = .ok (.iconst 0, 1) := by decide +kernel
theorem d_GR_fits_15 : decode q_GR_fits.2.1 15 = .ok (.istore_n 3, 1) := by decide +kernel
theorem d_GR_fits_16 : decode q_GR_fits.2.1 16 = .ok (.iload_n 3, 1) := by decide +kernel
theorem d_GR_fits_17 : decode q_GR_fits.2.1 17 = .ok (.aload_n 0, 1) := by decide +kernel
theorem d_GR_fits_18 : decode q_GR_fits.2.1 18 = .ok (.getfield 19, 3) := by decide +kernel
theorem d_GR_fits_21 : decode q_GR_fits.2.1 21 = .ok (.getfield 197, 3) := by decide +kernel
theorem d_GR_fits_24 : decode q_GR_fits.2.1 24 = .ok (.if_icmp .gt 59, 3) := by decide +kernel
theorem d_GR_fits_83 : decode q_GR_fits.2.1 83 = .ok (.iload_n 1, 1) := by decide +kernel
theorem d_GR_fits_84 : decode q_GR_fits.2.1 84 = .ok (.iconst (-1), 1) := by decide +kernel
theorem d_GR_fits_85 : decode q_GR_fits.2.1 85 = .ok (.if_icmp .ne 7, 3) := by decide +kernel
theorem d_GR_fits_88 : decode q_GR_fits.2.1 88 = .ok (.iload_n 2, 1) := by decide +kernel
theorem d_GR_fits_89 : decode q_GR_fits.2.1 89 = .ok (.goto 4, 3) := by decide +kernel
theorem d_GR_fits_92 : decode q_GR_fits.2.1 92 = .ok (.iconst (-1), 1) := by decide +kernel
theorem d_GR_fits_93 : decode q_GR_fits.2.1 93 = .ok (.ireturn, 1) := by decide +kernel
theorem d_GR_fits_27 : decode q_GR_fits.2.1 27 = .ok (.iconst 0, 1) := by decide +kernel
theorem d_GR_fits_28 : decode q_GR_fits.2.1 28 = .ok (.istore 4, 2) := by decide +kernel
theorem d_GR_fits_30 : decode q_GR_fits.2.1 30 = .ok (.iload 4, 2) := by decide +kernel
theorem d_GR_fits_32 : decode q_GR_fits.2.1 32 = .ok (.aload_n 0, 1) := by decide +kernel
theorem d_GR_fits_33 : decode q_GR_fits.2.1 33 = .ok (.getfield 19, 3) := by decide +kernel
theorem d_GR_fits_36 : decode q_GR_fits.2.1 36 = .ok (.getfield 204, 3) := by decide +kernel
theorem d_GR_fits_39 : decode q_GR_fits.2.1 39 = .ok (.if_icmp .gt 38, 3) := by decide +kernel
theorem d_GR_fits_77 : decode q_GR_fits.2.1 77 = .ok (.iinc 3 1, 3) := by decide +kernel
theorem d_GR_fits_80 : decode q_GR_fits.2.1 80 = .ok (.goto (-64), 3) := by decide +kernel
theorem d_GR_fits_42 : decode q_GR_fits.2.1 42 = .ok (.aload_n 0, 1) := by decide +kernel
theorem d_GR_fits_43 : decode q_GR_fits.2.1 43 = .ok (.getfield 96, 3) := by decide +kernel
theorem d_GR_fits_46 : decode q_GR_fits.2.1 46 = .ok (.iload_n 3, 1) := by decide +kernel
theorem d_GR_fits_47 : decode q_GR_fits.2.1 47 = .ok (.iload 4, 2) := by decide +kernel
theorem d_GR_fits_49 : decode q_GR_fits.2.1 49 = .ok (.invokevirtual 326, 3) := by decide +kernel
theorem ml_GR_326 : rx_CV "GlassRoom" 326 q_Ph_allShow 2 := ⟨⟨(rx_s4 226 rfl rfl), (rx_s4 227 rfl rfl), (rx_s4 228 rfl rfl)⟩, ⟨(rx_s1 12 rfl rfl), q_Ph_allShow_k, ⟨by decide, by decide, by decide +kernel⟩, by decide⟩⟩
theorem d_GR_fits_52 : decode q_GR_fits.2.1 52 = .ok (.ifCond .eq 19, 3) := by decide +kernel
theorem d_GR_fits_71 : decode q_GR_fits.2.1 71 = .ok (.iinc 4 1, 3) := by decide +kernel
theorem d_GR_fits_74 : decode q_GR_fits.2.1 74 = .ok (.goto (-44), 3) := by decide +kernel
theorem d_GR_fits_55 : decode q_GR_fits.2.1 55 = .ok (.iload_n 2, 1) := by decide +kernel
theorem d_GR_fits_56 : decode q_GR_fits.2.1 56 = .ok (.iload_n 1, 1) := by decide +kernel
theorem d_GR_fits_57 : decode q_GR_fits.2.1 57 = .ok (.if_icmp .ne 11, 3) := by decide +kernel
theorem d_GR_fits_60 : decode q_GR_fits.2.1 60 = .ok (.bipush 100, 2) := by decide +kernel
theorem d_GR_fits_62 : decode q_GR_fits.2.1 62 = .ok (.iload_n 3, 1) := by decide +kernel
theorem d_GR_fits_63 : decode q_GR_fits.2.1 63 = .ok (.imul, 1) := by decide +kernel
theorem d_GR_fits_64 : decode q_GR_fits.2.1 64 = .ok (.iload 4, 2) := by decide +kernel
theorem d_GR_fits_66 : decode q_GR_fits.2.1 66 = .ok (.iadd, 1) := by decide +kernel
theorem d_GR_fits_67 : decode q_GR_fits.2.1 67 = .ok (.ireturn, 1) := by decide +kernel
theorem d_GR_fits_68 : decode q_GR_fits.2.1 68 = .ok (.iinc 2 1, 3) := by decide +kernel
theorem d_M_fits_0 : decode q_M_fits.2.1 0 = .ok (.aload_n 0, 1) := by decide +kernel
theorem d_M_fits_1 : decode q_M_fits.2.1 1 = .ok (.getfield 236, 3) := by decide +kernel
theorem d_M_fits_4 : decode q_M_fits.2.1 4 = .ok (.ifCond .eq 8, 3) := by decide +kernel
theorem d_M_fits_12 : decode q_M_fits.2.1 12 = .ok (.iconst (-1), 1) := by decide +kernel
theorem d_M_fits_13 : decode q_M_fits.2.1 13 = .ok (.ireturn, 1) := by decide +kernel
theorem d_M_fits_7 : decode q_M_fits.2.1 7 = .ok (.iload_n 1, 1) := by decide +kernel
theorem d_M_fits_8 : decode q_M_fits.2.1 8 = .ok (.iconst (-1), 1) := by decide +kernel
theorem d_M_fits_9 : decode q_M_fits.2.1 9 = .ok (.if_icmp .ge 5, 3) := by decide +kernel
theorem d_M_fits_14 : decode q_M_fits.2.1 14 = .ok (.iconst 0, 1) := by decide +kernel
theorem d_M_fits_15 : decode q_M_fits.2.1 15 = .ok (.istore_n 2, 1) := by decide +kernel
theorem d_M_fits_16 : decode q_M_fits.2.1 16 = .ok (.iconst 0, 1) := by decide +kernel
theorem d_M_fits_17 : decode q_M_fits.2.1 17 = .ok (.istore_n 3, 1) := by decide +kernel
theorem d_M_fits_18 : decode q_M_fits.2.1 18 = .ok (.iload_n 3, 1) := by decide +kernel
theorem d_M_fits_19 : decode q_M_fits.2.1 19 = .ok (.aload_n 0, 1) := by decide +kernel
theorem d_M_fits_20 : decode q_M_fits.2.1 20 = .ok (.getfield 239, 3) := by decide +kernel
theorem d_M_fits_23 : decode q_M_fits.2.1 23 = .ok (.if_icmp .gt 93, 3) := by decide +kernel
theorem d_M_fits_116 : decode q_M_fits.2.1 116 = .ok (.iload_n 1, 1) := by decide +kernel
theorem d_M_fits_117 : decode q_M_fits.2.1 117 = .ok (.iconst (-1), 1) := by decide +kernel
theorem d_M_fits_118 : decode q_M_fits.2.1 118 = .ok (.if_icmp .ne 7, 3) := by decide +kernel
theorem d_M_fits_121 : decode q_M_fits.2.1 121 = .ok (.iload_n 2, 1) := by decide +kernel
theorem d_M_fits_122 : decode q_M_fits.2.1 122 = .ok (.goto 4, 3) := by decide +kernel
theorem d_M_fits_125 : decode q_M_fits.2.1 125 = .ok (.iconst (-1), 1) := by decide +kernel
theorem d_M_fits_126 : decode q_M_fits.2.1 126 = .ok (.ireturn, 1) := by decide +kernel
theorem d_M_fits_26 : decode q_M_fits.2.1 26 = .ok (.iconst 0, 1) := by decide +kernel
theorem d_M_fits_27 : decode q_M_fits.2.1 27 = .ok (.istore 4, 2) := by decide +kernel
theorem d_M_fits_29 : decode q_M_fits.2.1 29 = .ok (.iload 4, 2) := by decide +kernel
theorem d_M_fits_31 : decode q_M_fits.2.1 31 = .ok (.aload_n 0, 1) := by decide +kernel
theorem d_M_fits_32 : decode q_M_fits.2.1 32 = .ok (.getfield 242, 3) := by decide +kernel
theorem d_M_fits_35 : decode q_M_fits.2.1 35 = .ok (.if_icmp .gt 75, 3) := by decide +kernel
theorem d_M_fits_110 : decode q_M_fits.2.1 110 = .ok (.iinc 3 1, 3) := by decide +kernel
theorem d_M_fits_113 : decode q_M_fits.2.1 113 = .ok (.goto (-95), 3) := by decide +kernel
theorem d_M_fits_38 : decode q_M_fits.2.1 38 = .ok (.iconst 1, 1) := by decide +kernel
theorem d_M_fits_39 : decode q_M_fits.2.1 39 = .ok (.istore 5, 2) := by decide +kernel
theorem d_M_fits_41 : decode q_M_fits.2.1 41 = .ok (.iconst 0, 1) := by decide +kernel
theorem d_M_fits_42 : decode q_M_fits.2.1 42 = .ok (.istore 6, 2) := by decide +kernel
theorem d_M_fits_44 : decode q_M_fits.2.1 44 = .ok (.iload 6, 2) := by decide +kernel
theorem d_M_fits_46 : decode q_M_fits.2.1 46 = .ok (.aload_n 0, 1) := by decide +kernel
theorem d_M_fits_47 : decode q_M_fits.2.1 47 = .ok (.getfield 251, 3) := by decide +kernel
theorem d_M_fits_50 : decode q_M_fits.2.1 50 = .ok (.if_icmp .ge 33, 3) := by decide +kernel
theorem d_M_fits_53 : decode q_M_fits.2.1 53 = .ok (.iload 5, 2) := by decide +kernel
theorem d_M_fits_55 : decode q_M_fits.2.1 55 = .ok (.ifCond .eq 19, 3) := by decide +kernel
theorem d_M_fits_74 : decode q_M_fits.2.1 74 = .ok (.iconst 0, 1) := by decide +kernel
theorem d_M_fits_75 : decode q_M_fits.2.1 75 = .ok (.istore 5, 2) := by decide +kernel
theorem d_M_fits_77 : decode q_M_fits.2.1 77 = .ok (.iinc 6 1, 3) := by decide +kernel
theorem d_M_fits_80 : decode q_M_fits.2.1 80 = .ok (.goto (-36), 3) := by decide +kernel
theorem d_M_fits_83 : decode q_M_fits.2.1 83 = .ok (.iload 5, 2) := by decide +kernel
theorem d_M_fits_85 : decode q_M_fits.2.1 85 = .ok (.ifCond .eq 19, 3) := by decide +kernel
theorem d_M_fits_104 : decode q_M_fits.2.1 104 = .ok (.iinc 4 1, 3) := by decide +kernel
theorem d_M_fits_107 : decode q_M_fits.2.1 107 = .ok (.goto (-78), 3) := by decide +kernel
theorem d_M_fits_88 : decode q_M_fits.2.1 88 = .ok (.iload_n 2, 1) := by decide +kernel
theorem d_M_fits_89 : decode q_M_fits.2.1 89 = .ok (.iload_n 1, 1) := by decide +kernel
theorem d_M_fits_90 : decode q_M_fits.2.1 90 = .ok (.if_icmp .ne 11, 3) := by decide +kernel
theorem d_M_fits_93 : decode q_M_fits.2.1 93 = .ok (.bipush 100, 2) := by decide +kernel
theorem d_M_fits_95 : decode q_M_fits.2.1 95 = .ok (.iload_n 3, 1) := by decide +kernel
theorem d_M_fits_96 : decode q_M_fits.2.1 96 = .ok (.imul, 1) := by decide +kernel
theorem d_M_fits_97 : decode q_M_fits.2.1 97 = .ok (.iload 4, 2) := by decide +kernel
theorem d_M_fits_99 : decode q_M_fits.2.1 99 = .ok (.iadd, 1) := by decide +kernel
theorem d_M_fits_100 : decode q_M_fits.2.1 100 = .ok (.ireturn, 1) := by decide +kernel
theorem d_M_fits_101 : decode q_M_fits.2.1 101 = .ok (.iinc 2 1, 3) := by decide +kernel
theorem d_M_fits_58 : decode q_M_fits.2.1 58 = .ok (.aload_n 0, 1) := by decide +kernel
theorem d_M_fits_59 : decode q_M_fits.2.1 59 = .ok (.iload 6, 2) := by decide +kernel
theorem d_M_fits_61 : decode q_M_fits.2.1 61 = .ok (.iload_n 3, 1) := by decide +kernel
theorem d_M_fits_62 : decode q_M_fits.2.1 62 = .ok (.iload 4, 2) := by decide +kernel
theorem d_M_fits_64 : decode q_M_fits.2.1 64 = .ok (.invokevirtual 394, 3) := by decide +kernel
theorem ml_M_394 : rx_CV "GlassRoomModel" 394 q_M_isOnPhoto 3 := ⟨⟨(rx_s7 132 rfl rfl), (rx_s7 134 rfl rfl), (rx_s0 72 rfl rfl)⟩, ⟨(rx_s1 13 rfl rfl), q_M_isOnPhoto_k, ⟨by decide, by decide, by decide +kernel⟩, by decide⟩⟩
theorem d_M_fits_67 : decode q_M_fits.2.1 67 = .ok (.ifCond .eq 7, 3) := by decide +kernel
theorem d_M_fits_70 : decode q_M_fits.2.1 70 = .ok (.iconst 1, 1) := by decide +kernel
theorem d_M_fits_71 : decode q_M_fits.2.1 71 = .ok (.goto 4, 3) := by decide +kernel
set_option maxHeartbeats 4000000 in
set_option maxRecDepth 20000 in
theorem w_Ph_shows {G : rx_Gh} {hp : rx_Hp} {F : Int32 → rx_Hp → Prop} (a1 : Int32) (a2 : Int32) (a3 : Int32) (a4 : Int32) (H : ((f_Ha_has a1 hp) = 0 → F 0 hp) ∧ (¬ (f_Ha_has a1 hp) = 0 → Rn wC G 4 q_Ph_shows 46 [some (.ref 47), some (.int a1), some (.int a2), some (.int a3), some (.int a4), some (.int (f_Mt_min 2 (f_Ha_highI (hp.1 3 7)))), some (.int (f_Mt_max (-2) (f_Ha_lowI (hp.1 3 7)))), none] [] hp (rI F))) : Ev wC G 4 q_Ph_shows [.ref 47, .int a1, .int a2, .int a3, .int a4] hp (rI F) := by
  refine ev_of rfl (Nat.le_of_ble_eq_true rfl) rfl ?_
  show Rn wC G 4 q_Ph_shows 0 [some (.ref 47), some (.int a1), some (.int a2), some (.int a3), some (.int a4), none, none, none] [] hp (rI F)
  refine r_aload_n (i := 0) d_Ph_shows_0 rfl rfl ?_
  refine r_getR (b := 47) (r := 3) d_Ph_shows_1 fl_Ph_18 (by decide) rfl rfl rfl ?_
  refine r_iload_n (i := 1) d_Ph_shows_4 rfl rfl ?_
  refine rk_VI (b := 3) (d' := 1) [.int a1] [] d_Ph_shows_5 ml_Ph_30 rfl rfl (by decide) (by decide) rfl rfl (Nat.le_of_ble_eq_true rfl) (s_Ha_has a1 ?_)
  refine r_if_ne (tgt := 13) d_Ph_shows_8 (by decide) (fun hc_8 => ?_) (fun hc_8 => ?_)
  · replace H := H.2 hc_8
    refine r_iconst d_Ph_shows_13 ic_2 ?_
    refine r_aload_n (i := 0) d_Ph_shows_14 rfl rfl ?_
    refine r_getR (b := 47) (r := 3) d_Ph_shows_15 fl_Ph_18 (by decide) rfl rfl rfl ?_
    refine r_getI (b := 3) (v := hp.1 3 7) d_Ph_shows_18 fl_Ph_36 (by decide) rfl rfl rfl ?_
    refine rk_SI (d' := 2) [.int (hp.1 3 7)] [.int 2] d_Ph_shows_21 ml_Ph_39 rfl rfl (by decide) (Nat.le_of_ble_eq_true rfl) (s_Ha_highI (hp.1 3 7) ?_)
    refine rk_SI (d' := 1) [.int 2, .int (f_Ha_highI (hp.1 3 7))] [] d_Ph_shows_24 ml_Ph_43 rfl rfl (by decide) (Nat.le_of_ble_eq_true rfl) (s_Mt_min 2 (f_Ha_highI (hp.1 3 7)) ?_)
    refine r_istore (lz := [some (.ref 47), some (.int a1), some (.int a2), some (.int a3), some (.int a4), some (.int (f_Mt_min 2 (f_Ha_highI (hp.1 3 7)))), none, none]) d_Ph_shows_27 (by decide) rfl rfl ?_
    refine r_bipush d_Ph_shows_29 bp_m2 ?_
    refine r_aload_n (i := 0) d_Ph_shows_31 rfl rfl ?_
    refine r_getR (b := 47) (r := 3) d_Ph_shows_32 fl_Ph_18 (by decide) rfl rfl rfl ?_
    refine r_getI (b := 3) (v := hp.1 3 7) d_Ph_shows_35 fl_Ph_36 (by decide) rfl rfl rfl ?_
    refine rk_SI (d' := 2) [.int (hp.1 3 7)] [.int (-2)] d_Ph_shows_38 ml_Ph_49 rfl rfl (by decide) (Nat.le_of_ble_eq_true rfl) (s_Ha_lowI (hp.1 3 7) ?_)
    refine rk_SI (d' := 1) [.int (-2), .int (f_Ha_lowI (hp.1 3 7))] [] d_Ph_shows_41 ml_Ph_52 rfl rfl (by decide) (Nat.le_of_ble_eq_true rfl) (s_Mt_max (-2) (f_Ha_lowI (hp.1 3 7)) ?_)
    refine r_istore (lz := [some (.ref 47), some (.int a1), some (.int a2), some (.int a3), some (.int a4), some (.int (f_Mt_min 2 (f_Ha_highI (hp.1 3 7)))), some (.int (f_Mt_max (-2) (f_Ha_lowI (hp.1 3 7)))), none]) d_Ph_shows_44 (by decide) rfl rfl ?_
    exact H
  · replace H := H.1 hc_8
    refine r_iconst d_Ph_shows_11 ic_0 ?_
    exact rZ_ret d_Ph_shows_12 rfl (Or.inl rfl) H
set_option maxHeartbeats 4000000 in
set_option maxRecDepth 20000 in
theorem w_Ph_shows_46 {G : rx_Gh} {hp : rx_Hp} {F : Int32 → rx_Hp → Prop} (x1 : Int32) (x2 : Int32) (x3 : Int32) (x4 : Int32) (x5 : Int32) (x6 : Int32) (H : (x5 < x6 → F 0 hp) ∧ (¬ x5 < x6 → vp_in x1 6 ∧ ((x2 < (((f_Ha_spot x6 (hp.1 3 5) x3) - (hp.2.1 4 x1.toNatClampNeg)) * ((f_Ha_spot x6 (hp.1 3 5) x3) - (hp.2.1 4 x1.toNatClampNeg))) → Rn wC G 4 q_Ph_shows 46 [some (.ref 47), some (.int x1), some (.int x2), some (.int x3), some (.int x4), some (.int x5), some (.int (x6 + 1)), none] [] hp (rI F)) ∧ (¬ x2 < (((f_Ha_spot x6 (hp.1 3 5) x3) - (hp.2.1 4 x1.toNatClampNeg)) * ((f_Ha_spot x6 (hp.1 3 5) x3) - (hp.2.1 4 x1.toNatClampNeg))) → Ev wC G 3 q_Ph_showsUp [.ref 47, .int x1, .int (x2 - (((f_Ha_spot x6 (hp.1 3 5) x3) - (hp.2.1 4 x1.toNatClampNeg)) * ((f_Ha_spot x6 (hp.1 3 5) x3) - (hp.2.1 4 x1.toNatClampNeg)))), .int x4] hp (rI fun r2 h1 => (r2 = 0 → Rn wC G 4 q_Ph_shows 46 [some (.ref 47), some (.int x1), some (.int x2), some (.int x3), some (.int x4), some (.int x5), some (.int (x6 + 1)), none] [] h1 (rI F)) ∧ (¬ r2 = 0 → F 1 h1)))))) : Rn wC G 4 q_Ph_shows 46 [some (.ref 47), some (.int x1), some (.int x2), some (.int x3), some (.int x4), some (.int x5), some (.int x6), none] [] hp (rI F) := by
  refine r_iload d_Ph_shows_46 rfl ?_
  refine r_iload d_Ph_shows_48 rfl ?_
  refine r_icmp_gt (tgt := 112) d_Ph_shows_50 (by decide) (fun hc_50 => ?_) (fun hc_50 => ?_)
  · replace H := H.1 hc_50
    refine r_iconst d_Ph_shows_112 ic_0 ?_
    exact rZ_ret d_Ph_shows_113 rfl (Or.inl rfl) H
  · replace H := H.2 hc_50
    refine r_iload d_Ph_shows_53 rfl ?_
    refine r_aload_n (i := 0) d_Ph_shows_55 rfl rfl ?_
    refine r_getR (b := 47) (r := 3) d_Ph_shows_56 fl_Ph_18 (by decide) rfl rfl rfl ?_
    refine r_getI (b := 3) (v := hp.1 3 5) d_Ph_shows_59 fl_Ph_55 (by decide) rfl rfl rfl ?_
    refine r_iload_n (i := 3) d_Ph_shows_62 rfl rfl ?_
    refine rk_SI (d' := 1) [.int x6, .int (hp.1 3 5), .int x3] [] d_Ph_shows_63 ml_Ph_58 rfl rfl (by decide) (Nat.le_of_ble_eq_true rfl) (s_Ha_spot x6 (hp.1 3 5) x3 ?_)
    refine r_aload_n (i := 0) d_Ph_shows_66 rfl rfl ?_
    refine r_getR (b := 47) (r := 3) d_Ph_shows_67 fl_Ph_18 (by decide) rfl rfl rfl ?_
    refine r_getR (b := 3) (r := 4) d_Ph_shows_70 fl_Ph_62 (by decide) rfl rfl rfl ?_
    refine r_iload_n (i := 1) d_Ph_shows_73 rfl rfl ?_
    obtain ⟨hi_74, H⟩ := H
    refine r_iald (b := 4) (v := hp.2.1 4 x1.toNatClampNeg) d_Ph_shows_74 (by decide) rfl hi_74 rfl ?_
    refine r_isub d_Ph_shows_75 ?_
    refine r_istore (lz := [some (.ref 47), some (.int x1), some (.int x2), some (.int x3), some (.int x4), some (.int x5), some (.int x6), some (.int ((f_Ha_spot x6 (hp.1 3 5) x3) - (hp.2.1 4 x1.toNatClampNeg)))]) d_Ph_shows_76 (by decide) rfl rfl ?_
    refine r_iload d_Ph_shows_78 rfl ?_
    refine r_iload d_Ph_shows_80 rfl ?_
    refine r_imul d_Ph_shows_82 ?_
    refine r_iload_n (i := 2) d_Ph_shows_83 rfl rfl ?_
    refine r_icmp_gt (tgt := 106) d_Ph_shows_84 (by decide) (fun hc_84 => ?_) (fun hc_84 => ?_)
    · replace H := H.1 hc_84
      refine r_iinc (v := x6 + 1) (lz := [some (.ref 47), some (.int x1), some (.int x2), some (.int x3), some (.int x4), some (.int x5), some (.int (x6 + 1)), some (.int ((f_Ha_spot x6 (hp.1 3 5) x3) - (hp.2.1 4 x1.toNatClampNeg)))]) d_Ph_shows_106 rfl (by rw [ic_1]) (by decide) rfl rfl ?_
      refine r_goto (tgt := 46) d_Ph_shows_109 (by decide) ?_
      exact rx_fgt [false, false, false, false, false, false, false, true] H
    · replace H := H.2 hc_84
      refine r_aload_n (i := 0) d_Ph_shows_87 rfl rfl ?_
      refine r_iload_n (i := 1) d_Ph_shows_88 rfl rfl ?_
      refine r_iload_n (i := 2) d_Ph_shows_89 rfl rfl ?_
      refine r_iload d_Ph_shows_90 rfl ?_
      refine r_iload d_Ph_shows_92 rfl ?_
      refine r_imul d_Ph_shows_94 ?_
      refine r_isub d_Ph_shows_95 ?_
      refine r_iload d_Ph_shows_96 rfl ?_
      refine rc_VI (b := 47) (d' := 3) [.int x1, .int (x2 - (((f_Ha_spot x6 (hp.1 3 5) x3) - (hp.2.1 4 x1.toNatClampNeg)) * ((f_Ha_spot x6 (hp.1 3 5) x3) - (hp.2.1 4 x1.toNatClampNeg)))), .int x4] [] d_Ph_shows_98 ml_Ph_65 rfl rfl (by decide) (by decide) rfl rfl (Nat.le_of_ble_eq_true rfl) H ?_
      intro r2 h1 H
      refine r_if_eq (tgt := 106) d_Ph_shows_101 (by decide) (fun hc_101 => ?_) (fun hc_101 => ?_)
      · replace H := H.1 hc_101
        refine r_iinc (v := x6 + 1) (lz := [some (.ref 47), some (.int x1), some (.int x2), some (.int x3), some (.int x4), some (.int x5), some (.int (x6 + 1)), some (.int ((f_Ha_spot x6 (hp.1 3 5) x3) - (hp.2.1 4 x1.toNatClampNeg)))]) d_Ph_shows_106 rfl (by rw [ic_1]) (by decide) rfl rfl ?_
        refine r_goto (tgt := 46) d_Ph_shows_109 (by decide) ?_
        exact rx_fgt [false, false, false, false, false, false, false, true] H
      · replace H := H.2 hc_101
        refine r_iconst d_Ph_shows_104 ic_1 ?_
        exact rZ_ret d_Ph_shows_105 rfl (Or.inr rfl) H
set_option maxHeartbeats 4000000 in
set_option maxRecDepth 20000 in
theorem w_Ph_allShow {G : rx_Gh} {hp : rx_Hp} {F : Int32 → rx_Hp → Prop} (a1 : Int32) (a2 : Int32) (H : Rn wC G 5 q_Ph_allShow 2 [some (.ref 47), some (.int a1), some (.int a2), some (.int 0)] [] hp (rI F)) : Ev wC G 5 q_Ph_allShow [.ref 47, .int a1, .int a2] hp (rI F) := by
  refine ev_of rfl (Nat.le_of_ble_eq_true rfl) rfl ?_
  show Rn wC G 5 q_Ph_allShow 0 [some (.ref 47), some (.int a1), some (.int a2), none] [] hp (rI F)
  refine r_iconst d_Ph_allShow_0 ic_0 ?_
  refine r_istore_n (i := 3) (lz := [some (.ref 47), some (.int a1), some (.int a2), some (.int 0)]) d_Ph_allShow_1 rfl (by decide) rfl rfl ?_
  exact H
set_option maxHeartbeats 4000000 in
set_option maxRecDepth 20000 in
theorem w_Ph_allShow_2 {G : rx_Gh} {hp : rx_Hp} {F : Int32 → rx_Hp → Prop} (x1 : Int32) (x2 : Int32) (x3 : Int32) (H : ((hp.1 47 3) ≤ x3 → F 1 hp) ∧ (¬ (hp.1 47 3) ≤ x3 → (12 ≤ x3 → F 1 hp) ∧ (¬ 12 ≤ x3 → vp_in x3 12 ∧ (Ev wC G 4 q_Ph_shows [.ref 47, .int (hp.2.1 48 x3.toNatClampNeg), .int (hp.2.1 49 x3.toNatClampNeg), .int x1, .int x2] hp (rI fun r2 h1 => (r2 = 0 → F 0 h1) ∧ (¬ r2 = 0 → Rn wC G 5 q_Ph_allShow 2 [some (.ref 47), some (.int x1), some (.int x2), some (.int (x3 + 1))] [] h1 (rI F))))))) : Rn wC G 5 q_Ph_allShow 2 [some (.ref 47), some (.int x1), some (.int x2), some (.int x3)] [] hp (rI F) := by
  refine r_iload_n (i := 3) d_Ph_allShow_2 rfl rfl ?_
  refine r_aload_n (i := 0) d_Ph_allShow_3 rfl rfl ?_
  refine r_getI (b := 47) (v := hp.1 47 3) d_Ph_allShow_4 fl_Ph_22 (by decide) rfl rfl rfl ?_
  refine r_icmp_ge (tgt := 45) d_Ph_allShow_7 (by decide) (fun hc_7 => ?_) (fun hc_7 => ?_)
  · replace H := H.1 hc_7
    refine r_iconst d_Ph_allShow_45 ic_1 ?_
    exact rZ_ret d_Ph_allShow_46 rfl (Or.inr rfl) H
  · replace H := H.2 hc_7
    refine r_iload_n (i := 3) d_Ph_allShow_10 rfl rfl ?_
    refine r_bipush d_Ph_allShow_11 bp_12 ?_
    refine r_icmp_ge (tgt := 45) d_Ph_allShow_13 (by decide) (fun hc_13 => ?_) (fun hc_13 => ?_)
    · replace H := H.1 hc_13
      refine r_iconst d_Ph_allShow_45 ic_1 ?_
      exact rZ_ret d_Ph_allShow_46 rfl (Or.inr rfl) H
    · replace H := H.2 hc_13
      refine r_aload_n (i := 0) d_Ph_allShow_16 rfl rfl ?_
      refine r_aload_n (i := 0) d_Ph_allShow_17 rfl rfl ?_
      refine r_getR (b := 47) (r := 48) d_Ph_allShow_18 fl_Ph_9 (by decide) rfl rfl rfl ?_
      refine r_iload_n (i := 3) d_Ph_allShow_21 rfl rfl ?_
      obtain ⟨hi_22, H⟩ := H
      refine r_iald (b := 48) (v := hp.2.1 48 x3.toNatClampNeg) d_Ph_allShow_22 (by decide) rfl hi_22 rfl ?_
      refine r_aload_n (i := 0) d_Ph_allShow_23 rfl rfl ?_
      refine r_getR (b := 47) (r := 49) d_Ph_allShow_24 fl_Ph_15 (by decide) rfl rfl rfl ?_
      refine r_iload_n (i := 3) d_Ph_allShow_27 rfl rfl ?_
      refine r_iald (b := 49) (v := hp.2.1 49 x3.toNatClampNeg) d_Ph_allShow_28 (by decide) rfl hi_22 rfl ?_
      refine r_iload_n (i := 1) d_Ph_allShow_29 rfl rfl ?_
      refine r_iload_n (i := 2) d_Ph_allShow_30 rfl rfl ?_
      refine rc_VI (b := 47) (d' := 4) [.int (hp.2.1 48 x3.toNatClampNeg), .int (hp.2.1 49 x3.toNatClampNeg), .int x1, .int x2] [] d_Ph_allShow_31 ml_Ph_26 rfl rfl (by decide) (by decide) rfl rfl (Nat.le_of_ble_eq_true rfl) H ?_
      intro r2 h1 H
      refine r_if_ne (tgt := 39) d_Ph_allShow_34 (by decide) (fun hc_34 => ?_) (fun hc_34 => ?_)
      · replace H := H.2 hc_34
        refine r_iinc (v := x3 + 1) (lz := [some (.ref 47), some (.int x1), some (.int x2), some (.int (x3 + 1))]) d_Ph_allShow_39 rfl (by rw [ic_1]) (by decide) rfl rfl ?_
        refine r_goto (tgt := 2) d_Ph_allShow_42 (by decide) ?_
        exact H
      · replace H := H.1 hc_34
        refine r_iconst d_Ph_allShow_37 ic_0 ?_
        exact rZ_ret d_Ph_allShow_38 rfl (Or.inl rfl) H
set_option maxHeartbeats 4000000 in
set_option maxRecDepth 20000 in
theorem w_GR_fits {G : rx_Gh} {hp : rx_Hp} {F : Int32 → rx_Hp → Prop} (a1 : Int32) (H : ((f_Ha_stands hp) = 0 → F (-1) hp) ∧ (¬ (f_Ha_stands hp) = 0 → Rn wC G 6 q_GR_fits 16 [some (.ref 0), some (.int a1), some (.int 0), some (.int 0), none] [] hp (rI F))) : Ev wC G 6 q_GR_fits [.ref 0, .int a1] hp (rI F) := by
  refine ev_of rfl (Nat.le_of_ble_eq_true rfl) rfl ?_
  show Rn wC G 6 q_GR_fits 0 [some (.ref 0), some (.int a1), none, none, none] [] hp (rI F)
  refine r_aload_n (i := 0) d_GR_fits_0 rfl rfl ?_
  refine r_getR (b := 0) (r := 3) d_GR_fits_1 fl_GR_19 (by decide) rfl rfl rfl ?_
  refine rk_VI (b := 3) (d' := 1) [] [] d_GR_fits_4 ml_GR_171 rfl rfl (by decide) (by decide) rfl rfl (Nat.le_of_ble_eq_true rfl) (s_Ha_stands  ?_)
  refine r_if_ne (tgt := 12) d_GR_fits_7 (by decide) (fun hc_7 => ?_) (fun hc_7 => ?_)
  · replace H := H.2 hc_7
    refine r_iconst d_GR_fits_12 ic_0 ?_
    refine r_istore_n (i := 2) (lz := [some (.ref 0), some (.int a1), some (.int 0), none, none]) d_GR_fits_13 rfl (by decide) rfl rfl ?_
    refine r_iconst d_GR_fits_14 ic_0 ?_
    refine r_istore_n (i := 3) (lz := [some (.ref 0), some (.int a1), some (.int 0), some (.int 0), none]) d_GR_fits_15 rfl (by decide) rfl rfl ?_
    exact H
  · replace H := H.1 hc_7
    refine r_iconst d_GR_fits_10 ic_m1 ?_
    exact rI_ret d_GR_fits_11 rfl H
set_option maxHeartbeats 4000000 in
set_option maxRecDepth 20000 in
theorem w_GR_fits_16 {G : rx_Gh} {hp : rx_Hp} {F : Int32 → rx_Hp → Prop} (x1 : Int32) (x2 : Int32) (x3 : Int32) (H : ((hp.1 3 5) < x3 → F ((if x1 = (-1) then x2 else (-1)) : Int32) hp) ∧ (¬ (hp.1 3 5) < x3 → Rn wC G 6 q_GR_fits 30 [some (.ref 0), some (.int x1), some (.int x2), some (.int x3), some (.int 0)] [] hp (rI F))) : Rn wC G 6 q_GR_fits 16 [some (.ref 0), some (.int x1), some (.int x2), some (.int x3), none] [] hp (rI F) := by
  refine r_iload_n (i := 3) d_GR_fits_16 rfl rfl ?_
  refine r_aload_n (i := 0) d_GR_fits_17 rfl rfl ?_
  refine r_getR (b := 0) (r := 3) d_GR_fits_18 fl_GR_19 (by decide) rfl rfl rfl ?_
  refine r_getI (b := 3) (v := hp.1 3 5) d_GR_fits_21 fl_GR_197 (by decide) rfl rfl rfl ?_
  refine r_icmp_gt (tgt := 83) d_GR_fits_24 (by decide) (fun hc_24 => ?_) (fun hc_24 => ?_)
  · replace H := H.1 hc_24
    have J85 : ∀ (v85_0 : Int32), v85_0 = ((if x1 = (-1) then x2 else (-1)) : Int32) → Rn wC G 6 q_GR_fits 93 [some (.ref 0), some (.int x1), some (.int x2), some (.int x3), none] [.int v85_0] hp (rI F) := by
      rintro _ rfl
      exact rI_ret d_GR_fits_93 rfl H
    refine r_iload_n (i := 1) d_GR_fits_83 rfl rfl ?_
    refine r_iconst d_GR_fits_84 ic_m1 ?_
    refine r_icmp_ne (tgt := 92) d_GR_fits_85 (by decide) (fun hc_85 => ?_) (fun hc_85 => ?_)
    · refine r_iconst d_GR_fits_92 ic_m1 ?_
      exact J85 _ (((if_neg hc_85).trans rfl)).symm
    · refine r_iload_n (i := 2) d_GR_fits_88 rfl rfl ?_
      refine r_goto (tgt := 93) d_GR_fits_89 (by decide) ?_
      exact J85 _ (((if_pos hc_85).trans rfl)).symm
  · replace H := H.2 hc_24
    refine r_iconst d_GR_fits_27 ic_0 ?_
    refine r_istore (lz := [some (.ref 0), some (.int x1), some (.int x2), some (.int x3), some (.int 0)]) d_GR_fits_28 (by decide) rfl rfl ?_
    exact H
set_option maxHeartbeats 4000000 in
set_option maxRecDepth 20000 in
theorem w_GR_fits_30 {G : rx_Gh} {hp : rx_Hp} {F : Int32 → rx_Hp → Prop} (x1 : Int32) (x2 : Int32) (x3 : Int32) (x4 : Int32) (H : ((hp.1 3 6) < x4 → Rn wC G 6 q_GR_fits 16 [some (.ref 0), some (.int x1), some (.int x2), some (.int (x3 + 1)), none] [] hp (rI F)) ∧ (¬ (hp.1 3 6) < x4 → Ev wC G 5 q_Ph_allShow [.ref 47, .int x3, .int x4] hp (rI fun r2 h1 => (r2 = 0 → Rn wC G 6 q_GR_fits 30 [some (.ref 0), some (.int x1), some (.int x2), some (.int x3), some (.int (x4 + 1))] [] h1 (rI F)) ∧ (¬ r2 = 0 → (x2 = x1 → F ((100 * x3) + x4) h1) ∧ (¬ x2 = x1 → Rn wC G 6 q_GR_fits 30 [some (.ref 0), some (.int x1), some (.int (x2 + 1)), some (.int x3), some (.int (x4 + 1))] [] h1 (rI F)))))) : Rn wC G 6 q_GR_fits 30 [some (.ref 0), some (.int x1), some (.int x2), some (.int x3), some (.int x4)] [] hp (rI F) := by
  refine r_iload d_GR_fits_30 rfl ?_
  refine r_aload_n (i := 0) d_GR_fits_32 rfl rfl ?_
  refine r_getR (b := 0) (r := 3) d_GR_fits_33 fl_GR_19 (by decide) rfl rfl rfl ?_
  refine r_getI (b := 3) (v := hp.1 3 6) d_GR_fits_36 fl_GR_204 (by decide) rfl rfl rfl ?_
  refine r_icmp_gt (tgt := 77) d_GR_fits_39 (by decide) (fun hc_39 => ?_) (fun hc_39 => ?_)
  · replace H := H.1 hc_39
    refine r_iinc (v := x3 + 1) (lz := [some (.ref 0), some (.int x1), some (.int x2), some (.int (x3 + 1)), some (.int x4)]) d_GR_fits_77 rfl (by rw [ic_1]) (by decide) rfl rfl ?_
    refine r_goto (tgt := 16) d_GR_fits_80 (by decide) ?_
    exact rx_fgt [false, false, false, false, true] H
  · replace H := H.2 hc_39
    refine r_aload_n (i := 0) d_GR_fits_42 rfl rfl ?_
    refine r_getR (b := 0) (r := 47) d_GR_fits_43 fl_GR_96 (by decide) rfl rfl rfl ?_
    refine r_iload_n (i := 3) d_GR_fits_46 rfl rfl ?_
    refine r_iload d_GR_fits_47 rfl ?_
    refine rc_VI (b := 47) (d' := 5) [.int x3, .int x4] [] d_GR_fits_49 ml_GR_326 rfl rfl (by decide) (by decide) rfl rfl (Nat.le_of_ble_eq_true rfl) H ?_
    intro r2 h1 H
    refine r_if_eq (tgt := 71) d_GR_fits_52 (by decide) (fun hc_52 => ?_) (fun hc_52 => ?_)
    · replace H := H.1 hc_52
      refine r_iinc (v := x4 + 1) (lz := [some (.ref 0), some (.int x1), some (.int x2), some (.int x3), some (.int (x4 + 1))]) d_GR_fits_71 rfl (by rw [ic_1]) (by decide) rfl rfl ?_
      refine r_goto (tgt := 30) d_GR_fits_74 (by decide) ?_
      exact H
    · replace H := H.2 hc_52
      refine r_iload_n (i := 2) d_GR_fits_55 rfl rfl ?_
      refine r_iload_n (i := 1) d_GR_fits_56 rfl rfl ?_
      refine r_icmp_ne (tgt := 68) d_GR_fits_57 (by decide) (fun hc_57 => ?_) (fun hc_57 => ?_)
      · replace H := H.2 hc_57
        refine r_iinc (v := x2 + 1) (lz := [some (.ref 0), some (.int x1), some (.int (x2 + 1)), some (.int x3), some (.int x4)]) d_GR_fits_68 rfl (by rw [ic_1]) (by decide) rfl rfl ?_
        refine r_iinc (v := x4 + 1) (lz := [some (.ref 0), some (.int x1), some (.int (x2 + 1)), some (.int x3), some (.int (x4 + 1))]) d_GR_fits_71 rfl (by rw [ic_1]) (by decide) rfl rfl ?_
        refine r_goto (tgt := 30) d_GR_fits_74 (by decide) ?_
        exact H
      · replace H := H.1 hc_57
        refine r_bipush d_GR_fits_60 bp_100 ?_
        refine r_iload_n (i := 3) d_GR_fits_62 rfl rfl ?_
        refine r_imul d_GR_fits_63 ?_
        refine r_iload d_GR_fits_64 rfl ?_
        refine r_iadd d_GR_fits_66 ?_
        exact rI_ret d_GR_fits_67 rfl H
set_option maxHeartbeats 4000000 in
set_option maxRecDepth 20000 in
theorem w_M_fits {G : rx_Gh} {hp : rx_Hp} {F : Int32 → rx_Hp → Prop} (a1 : Int32) (H : ((hp.1 0 23) = 0 → F (-1) hp) ∧ (¬ (hp.1 0 23) = 0 → ((-1) ≤ a1 → Rn wM G 5 q_M_fits 18 [some (.ref 0), some (.int a1), some (.int 0), some (.int 0), none, none, none] [] hp (rI F)) ∧ (¬ (-1) ≤ a1 → F (-1) hp))) : Ev wM G 5 q_M_fits [.ref 0, .int a1] hp (rI F) := by
  refine ev_of rfl (Nat.le_of_ble_eq_true rfl) rfl ?_
  show Rn wM G 5 q_M_fits 0 [some (.ref 0), some (.int a1), none, none, none, none, none] [] hp (rI F)
  refine r_aload_n (i := 0) d_M_fits_0 rfl rfl ?_
  refine r_getI (b := 0) (v := hp.1 0 23) d_M_fits_1 fl_M_236 (by decide) rfl rfl rfl ?_
  refine r_if_eq (tgt := 12) d_M_fits_4 (by decide) (fun hc_4 => ?_) (fun hc_4 => ?_)
  · replace H := H.1 hc_4
    refine r_iconst d_M_fits_12 ic_m1 ?_
    exact rI_ret d_M_fits_13 rfl H
  · replace H := H.2 hc_4
    refine r_iload_n (i := 1) d_M_fits_7 rfl rfl ?_
    refine r_iconst d_M_fits_8 ic_m1 ?_
    refine r_icmp_ge (tgt := 14) d_M_fits_9 (by decide) (fun hc_9 => ?_) (fun hc_9 => ?_)
    · replace H := H.1 hc_9
      refine r_iconst d_M_fits_14 ic_0 ?_
      refine r_istore_n (i := 2) (lz := [some (.ref 0), some (.int a1), some (.int 0), none, none, none, none]) d_M_fits_15 rfl (by decide) rfl rfl ?_
      refine r_iconst d_M_fits_16 ic_0 ?_
      refine r_istore_n (i := 3) (lz := [some (.ref 0), some (.int a1), some (.int 0), some (.int 0), none, none, none]) d_M_fits_17 rfl (by decide) rfl rfl ?_
      exact H
    · replace H := H.2 hc_9
      refine r_iconst d_M_fits_12 ic_m1 ?_
      exact rI_ret d_M_fits_13 rfl H
set_option maxHeartbeats 4000000 in
set_option maxRecDepth 20000 in
theorem w_M_fits_18 {G : rx_Gh} {hp : rx_Hp} {F : Int32 → rx_Hp → Prop} (x1 : Int32) (x2 : Int32) (x3 : Int32) (H : ((hp.1 0 24) < x3 → F ((if x1 = (-1) then x2 else (-1)) : Int32) hp) ∧ (¬ (hp.1 0 24) < x3 → Rn wM G 5 q_M_fits 29 [some (.ref 0), some (.int x1), some (.int x2), some (.int x3), some (.int 0), none, none] [] hp (rI F))) : Rn wM G 5 q_M_fits 18 [some (.ref 0), some (.int x1), some (.int x2), some (.int x3), none, none, none] [] hp (rI F) := by
  refine r_iload_n (i := 3) d_M_fits_18 rfl rfl ?_
  refine r_aload_n (i := 0) d_M_fits_19 rfl rfl ?_
  refine r_getI (b := 0) (v := hp.1 0 24) d_M_fits_20 fl_M_239 (by decide) rfl rfl rfl ?_
  refine r_icmp_gt (tgt := 116) d_M_fits_23 (by decide) (fun hc_23 => ?_) (fun hc_23 => ?_)
  · replace H := H.1 hc_23
    have J118 : ∀ (v118_0 : Int32), v118_0 = ((if x1 = (-1) then x2 else (-1)) : Int32) → Rn wM G 5 q_M_fits 126 [some (.ref 0), some (.int x1), some (.int x2), some (.int x3), none, none, none] [.int v118_0] hp (rI F) := by
      rintro _ rfl
      exact rI_ret d_M_fits_126 rfl H
    refine r_iload_n (i := 1) d_M_fits_116 rfl rfl ?_
    refine r_iconst d_M_fits_117 ic_m1 ?_
    refine r_icmp_ne (tgt := 125) d_M_fits_118 (by decide) (fun hc_118 => ?_) (fun hc_118 => ?_)
    · refine r_iconst d_M_fits_125 ic_m1 ?_
      exact J118 _ (((if_neg hc_118).trans rfl)).symm
    · refine r_iload_n (i := 2) d_M_fits_121 rfl rfl ?_
      refine r_goto (tgt := 126) d_M_fits_122 (by decide) ?_
      exact J118 _ (((if_pos hc_118).trans rfl)).symm
  · replace H := H.2 hc_23
    refine r_iconst d_M_fits_26 ic_0 ?_
    refine r_istore (lz := [some (.ref 0), some (.int x1), some (.int x2), some (.int x3), some (.int 0), none, none]) d_M_fits_27 (by decide) rfl rfl ?_
    exact H
set_option maxHeartbeats 4000000 in
set_option maxRecDepth 20000 in
theorem w_M_fits_29 {G : rx_Gh} {hp : rx_Hp} {F : Int32 → rx_Hp → Prop} (x1 : Int32) (x2 : Int32) (x3 : Int32) (x4 : Int32) (H : ((hp.1 0 25) < x4 → Rn wM G 5 q_M_fits 18 [some (.ref 0), some (.int x1), some (.int x2), some (.int (x3 + 1)), none, none, none] [] hp (rI F)) ∧ (¬ (hp.1 0 25) < x4 → Rn wM G 5 q_M_fits 44 [some (.ref 0), some (.int x1), some (.int x2), some (.int x3), some (.int x4), some (.int 1), some (.int 0)] [] hp (rI F))) : Rn wM G 5 q_M_fits 29 [some (.ref 0), some (.int x1), some (.int x2), some (.int x3), some (.int x4), none, none] [] hp (rI F) := by
  refine r_iload d_M_fits_29 rfl ?_
  refine r_aload_n (i := 0) d_M_fits_31 rfl rfl ?_
  refine r_getI (b := 0) (v := hp.1 0 25) d_M_fits_32 fl_M_242 (by decide) rfl rfl rfl ?_
  refine r_icmp_gt (tgt := 110) d_M_fits_35 (by decide) (fun hc_35 => ?_) (fun hc_35 => ?_)
  · replace H := H.1 hc_35
    refine r_iinc (v := x3 + 1) (lz := [some (.ref 0), some (.int x1), some (.int x2), some (.int (x3 + 1)), some (.int x4), none, none]) d_M_fits_110 rfl (by rw [ic_1]) (by decide) rfl rfl ?_
    refine r_goto (tgt := 18) d_M_fits_113 (by decide) ?_
    exact rx_fgt [false, false, false, false, true] H
  · replace H := H.2 hc_35
    refine r_iconst d_M_fits_38 ic_1 ?_
    refine r_istore (lz := [some (.ref 0), some (.int x1), some (.int x2), some (.int x3), some (.int x4), some (.int 1), none]) d_M_fits_39 (by decide) rfl rfl ?_
    refine r_iconst d_M_fits_41 ic_0 ?_
    refine r_istore (lz := [some (.ref 0), some (.int x1), some (.int x2), some (.int x3), some (.int x4), some (.int 1), some (.int 0)]) d_M_fits_42 (by decide) rfl rfl ?_
    exact H
set_option maxHeartbeats 4000000 in
set_option maxRecDepth 20000 in
theorem w_M_fits_44 {G : rx_Gh} {hp : rx_Hp} {F : Int32 → rx_Hp → Prop} (x1 : Int32) (x2 : Int32) (x3 : Int32) (x4 : Int32) (x5 : Int32) (x6 : Int32) (H : ((hp.1 0 42) ≤ x6 → (x5 = 0 → Rn wM G 5 q_M_fits 29 [some (.ref 0), some (.int x1), some (.int x2), some (.int x3), some (.int (x4 + 1)), none, none] [] hp (rI F)) ∧ (¬ x5 = 0 → (x2 = x1 → F ((100 * x3) + x4) hp) ∧ (¬ x2 = x1 → Rn wM G 5 q_M_fits 29 [some (.ref 0), some (.int x1), some (.int (x2 + 1)), some (.int x3), some (.int (x4 + 1)), none, none] [] hp (rI F)))) ∧ (¬ (hp.1 0 42) ≤ x6 → (x5 = 0 → Rn wM G 5 q_M_fits 44 [some (.ref 0), some (.int x1), some (.int x2), some (.int x3), some (.int x4), some (.int 0), some (.int (x6 + 1))] [] hp (rI F)) ∧ (¬ x5 = 0 → Ev wM G 4 q_M_isOnPhoto [.ref 0, .int x6, .int x3, .int x4] hp (rI fun r2 h1 => Rn wM G 5 q_M_fits 44 [some (.ref 0), some (.int x1), some (.int x2), some (.int x3), some (.int x4), some (.int ((if r2 = 0 then 0 else 1) : Int32)), some (.int (x6 + 1))] [] h1 (rI F))))) : Rn wM G 5 q_M_fits 44 [some (.ref 0), some (.int x1), some (.int x2), some (.int x3), some (.int x4), some (.int x5), some (.int x6)] [] hp (rI F) := by
  refine r_iload d_M_fits_44 rfl ?_
  refine r_aload_n (i := 0) d_M_fits_46 rfl rfl ?_
  refine r_getI (b := 0) (v := hp.1 0 42) d_M_fits_47 fl_M_251 (by decide) rfl rfl rfl ?_
  refine r_icmp_ge (tgt := 83) d_M_fits_50 (by decide) (fun hc_50 => ?_) (fun hc_50 => ?_)
  · replace H := H.1 hc_50
    refine r_iload d_M_fits_83 rfl ?_
    refine r_if_eq (tgt := 104) d_M_fits_85 (by decide) (fun hc_85 => ?_) (fun hc_85 => ?_)
    · replace H := H.1 hc_85
      refine r_iinc (v := x4 + 1) (lz := [some (.ref 0), some (.int x1), some (.int x2), some (.int x3), some (.int (x4 + 1)), some (.int x5), some (.int x6)]) d_M_fits_104 rfl (by rw [ic_1]) (by decide) rfl rfl ?_
      refine r_goto (tgt := 29) d_M_fits_107 (by decide) ?_
      exact rx_fgt [false, false, false, false, false, true, true] H
    · replace H := H.2 hc_85
      refine r_iload_n (i := 2) d_M_fits_88 rfl rfl ?_
      refine r_iload_n (i := 1) d_M_fits_89 rfl rfl ?_
      refine r_icmp_ne (tgt := 101) d_M_fits_90 (by decide) (fun hc_90 => ?_) (fun hc_90 => ?_)
      · replace H := H.2 hc_90
        refine r_iinc (v := x2 + 1) (lz := [some (.ref 0), some (.int x1), some (.int (x2 + 1)), some (.int x3), some (.int x4), some (.int x5), some (.int x6)]) d_M_fits_101 rfl (by rw [ic_1]) (by decide) rfl rfl ?_
        refine r_iinc (v := x4 + 1) (lz := [some (.ref 0), some (.int x1), some (.int (x2 + 1)), some (.int x3), some (.int (x4 + 1)), some (.int x5), some (.int x6)]) d_M_fits_104 rfl (by rw [ic_1]) (by decide) rfl rfl ?_
        refine r_goto (tgt := 29) d_M_fits_107 (by decide) ?_
        exact rx_fgt [false, false, false, false, false, true, true] H
      · replace H := H.1 hc_90
        refine r_bipush d_M_fits_93 bp_100 ?_
        refine r_iload_n (i := 3) d_M_fits_95 rfl rfl ?_
        refine r_imul d_M_fits_96 ?_
        refine r_iload d_M_fits_97 rfl ?_
        refine r_iadd d_M_fits_99 ?_
        exact rI_ret d_M_fits_100 rfl H
  · replace H := H.2 hc_50
    refine r_iload d_M_fits_53 rfl ?_
    refine r_if_eq (tgt := 74) d_M_fits_55 (by decide) (fun hc_55 => ?_) (fun hc_55 => ?_)
    · replace H := H.1 hc_55
      refine r_iconst d_M_fits_74 ic_0 ?_
      refine r_istore (lz := [some (.ref 0), some (.int x1), some (.int x2), some (.int x3), some (.int x4), some (.int 0), some (.int x6)]) d_M_fits_75 (by decide) rfl rfl ?_
      refine r_iinc (v := x6 + 1) (lz := [some (.ref 0), some (.int x1), some (.int x2), some (.int x3), some (.int x4), some (.int 0), some (.int (x6 + 1))]) d_M_fits_77 rfl (by rw [ic_1]) (by decide) rfl rfl ?_
      refine r_goto (tgt := 44) d_M_fits_80 (by decide) ?_
      exact H
    · replace H := H.2 hc_55
      refine r_aload_n (i := 0) d_M_fits_58 rfl rfl ?_
      refine r_iload d_M_fits_59 rfl ?_
      refine r_iload_n (i := 3) d_M_fits_61 rfl rfl ?_
      refine r_iload d_M_fits_62 rfl ?_
      refine rc_VI (b := 0) (d' := 4) [.int x6, .int x3, .int x4] [] d_M_fits_64 ml_M_394 rfl rfl (by decide) (by decide) rfl rfl (Nat.le_of_ble_eq_true rfl) H ?_
      intro r2 h1 H
      have J67 : ∀ (v67_0 : Int32), v67_0 = ((if r2 = 0 then 0 else 1) : Int32) → Rn wM G 5 q_M_fits 75 [some (.ref 0), some (.int x1), some (.int x2), some (.int x3), some (.int x4), some (.int x5), some (.int x6)] [.int v67_0] h1 (rI F) := by
        rintro _ rfl
        refine r_istore (lz := [some (.ref 0), some (.int x1), some (.int x2), some (.int x3), some (.int x4), some (.int ((if r2 = 0 then 0 else 1) : Int32)), some (.int x6)]) d_M_fits_75 (by decide) rfl rfl ?_
        refine r_iinc (v := x6 + 1) (lz := [some (.ref 0), some (.int x1), some (.int x2), some (.int x3), some (.int x4), some (.int ((if r2 = 0 then 0 else 1) : Int32)), some (.int (x6 + 1))]) d_M_fits_77 rfl (by rw [ic_1]) (by decide) rfl rfl ?_
        refine r_goto (tgt := 44) d_M_fits_80 (by decide) ?_
        exact H
      refine r_if_eq (tgt := 74) d_M_fits_67 (by decide) (fun hc_67 => ?_) (fun hc_67 => ?_)
      · refine r_iconst d_M_fits_74 ic_0 ?_
        exact J67 _ (((if_pos hc_67).trans rfl)).symm
      · refine r_iconst d_M_fits_70 ic_1 ?_
        refine r_goto (tgt := 75) d_M_fits_71 (by decide) ?_
        exact J67 _ (((if_neg hc_67).trans rfl)).symm

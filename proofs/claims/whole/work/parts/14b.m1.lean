theorem d_M_write_0 : decode q_M_write.2.1 0 = .ok (.iconst 0, 1) := by decide +kernel
theorem d_M_write_1 : decode q_M_write.2.1 1 = .ok (.istore_n 3, 1) := by decide +kernel
theorem d_M_write_2 : decode q_M_write.2.1 2 = .ok (.iload_n 3, 1) := by decide +kernel
theorem d_M_write_3 : decode q_M_write.2.1 3 = .ok (.bipush 6, 2) := by decide +kernel
theorem d_M_write_5 : decode q_M_write.2.1 5 = .ok (.if_icmp .ge 37, 3) := by decide +kernel
theorem d_M_write_8 : decode q_M_write.2.1 8 = .ok (.aload_n 1, 1) := by decide +kernel
theorem d_M_write_9 : decode q_M_write.2.1 9 = .ok (.iload_n 2, 1) := by decide +kernel
theorem d_M_write_10 : decode q_M_write.2.1 10 = .ok (.iconst 2, 1) := by decide +kernel
theorem d_M_write_11 : decode q_M_write.2.1 11 = .ok (.iload_n 3, 1) := by decide +kernel
theorem d_M_write_12 : decode q_M_write.2.1 12 = .ok (.imul, 1) := by decide +kernel
theorem d_M_write_13 : decode q_M_write.2.1 13 = .ok (.iadd, 1) := by decide +kernel
theorem d_M_write_14 : decode q_M_write.2.1 14 = .ok (.aload_n 0, 1) := by decide +kernel
theorem d_M_write_15 : decode q_M_write.2.1 15 = .ok (.getfield 46, 3) := by decide +kernel
theorem d_M_write_18 : decode q_M_write.2.1 18 = .ok (.iload_n 3, 1) := by decide +kernel
theorem d_M_write_42 : decode q_M_write.2.1 42 = .ok (.aload_n 1, 1) := by decide +kernel
theorem d_M_write_43 : decode q_M_write.2.1 43 = .ok (.iload_n 2, 1) := by decide +kernel
theorem d_M_write_44 : decode q_M_write.2.1 44 = .ok (.bipush 13, 2) := by decide +kernel
theorem bp_13 : (Int8.ofInt (13)).toInt32 = (13 : Int32) := by decide
theorem d_M_write_46 : decode q_M_write.2.1 46 = .ok (.iadd, 1) := by decide +kernel
theorem d_M_write_47 : decode q_M_write.2.1 47 = .ok (.iconst 1, 1) := by decide +kernel
theorem d_M_write_48 : decode q_M_write.2.1 48 = .ok (.isub, 1) := by decide +kernel
theorem d_M_write_49 : decode q_M_write.2.1 49 = .ok (.aload_n 0, 1) := by decide +kernel
theorem d_M_write_50 : decode q_M_write.2.1 50 = .ok (.getfield 245, 3) := by decide +kernel
theorem d_M_write_53 : decode q_M_write.2.1 53 = .ok (.iastore, 1) := by decide +kernel
theorem d_M_write_54 : decode q_M_write.2.1 54 = .ok (.return_, 1) := by decide +kernel
theorem d_M_write_19 : decode q_M_write.2.1 19 = .ok (.iaload, 1) := by decide +kernel
theorem d_M_write_20 : decode q_M_write.2.1 20 = .ok (.iastore, 1) := by decide +kernel
theorem d_M_write_21 : decode q_M_write.2.1 21 = .ok (.aload_n 1, 1) := by decide +kernel
theorem d_M_write_22 : decode q_M_write.2.1 22 = .ok (.iload_n 2, 1) := by decide +kernel
theorem d_M_write_23 : decode q_M_write.2.1 23 = .ok (.iconst 2, 1) := by decide +kernel
theorem d_M_write_24 : decode q_M_write.2.1 24 = .ok (.iload_n 3, 1) := by decide +kernel
theorem d_M_write_25 : decode q_M_write.2.1 25 = .ok (.imul, 1) := by decide +kernel
theorem d_M_write_26 : decode q_M_write.2.1 26 = .ok (.iadd, 1) := by decide +kernel
theorem d_M_write_27 : decode q_M_write.2.1 27 = .ok (.iconst 1, 1) := by decide +kernel
theorem d_M_write_28 : decode q_M_write.2.1 28 = .ok (.iadd, 1) := by decide +kernel
theorem d_M_write_29 : decode q_M_write.2.1 29 = .ok (.aload_n 0, 1) := by decide +kernel
theorem d_M_write_30 : decode q_M_write.2.1 30 = .ok (.getfield 49, 3) := by decide +kernel
theorem d_M_write_33 : decode q_M_write.2.1 33 = .ok (.iload_n 3, 1) := by decide +kernel
theorem d_M_write_34 : decode q_M_write.2.1 34 = .ok (.iaload, 1) := by decide +kernel
theorem d_M_write_35 : decode q_M_write.2.1 35 = .ok (.iastore, 1) := by decide +kernel
theorem d_M_write_36 : decode q_M_write.2.1 36 = .ok (.iinc 3 1, 3) := by decide +kernel
theorem d_M_write_39 : decode q_M_write.2.1 39 = .ok (.goto (-37), 3) := by decide +kernel
theorem d_M_read_0 : decode q_M_read.2.1 0 = .ok (.iconst 0, 1) := by decide +kernel
theorem d_M_read_1 : decode q_M_read.2.1 1 = .ok (.istore_n 3, 1) := by decide +kernel
theorem d_M_read_2 : decode q_M_read.2.1 2 = .ok (.iload_n 3, 1) := by decide +kernel
theorem d_M_read_3 : decode q_M_read.2.1 3 = .ok (.bipush 6, 2) := by decide +kernel
theorem d_M_read_5 : decode q_M_read.2.1 5 = .ok (.if_icmp .ge 37, 3) := by decide +kernel
theorem d_M_read_8 : decode q_M_read.2.1 8 = .ok (.aload_n 0, 1) := by decide +kernel
theorem d_M_read_9 : decode q_M_read.2.1 9 = .ok (.getfield 46, 3) := by decide +kernel
theorem d_M_read_12 : decode q_M_read.2.1 12 = .ok (.iload_n 3, 1) := by decide +kernel
theorem d_M_read_13 : decode q_M_read.2.1 13 = .ok (.aload_n 1, 1) := by decide +kernel
theorem d_M_read_14 : decode q_M_read.2.1 14 = .ok (.iload_n 2, 1) := by decide +kernel
theorem d_M_read_15 : decode q_M_read.2.1 15 = .ok (.iconst 2, 1) := by decide +kernel
theorem d_M_read_16 : decode q_M_read.2.1 16 = .ok (.iload_n 3, 1) := by decide +kernel
theorem d_M_read_17 : decode q_M_read.2.1 17 = .ok (.imul, 1) := by decide +kernel
theorem d_M_read_18 : decode q_M_read.2.1 18 = .ok (.iadd, 1) := by decide +kernel
theorem d_M_read_42 : decode q_M_read.2.1 42 = .ok (.aload_n 0, 1) := by decide +kernel
theorem d_M_read_43 : decode q_M_read.2.1 43 = .ok (.aload_n 1, 1) := by decide +kernel
theorem d_M_read_44 : decode q_M_read.2.1 44 = .ok (.iload_n 2, 1) := by decide +kernel
theorem d_M_read_45 : decode q_M_read.2.1 45 = .ok (.bipush 13, 2) := by decide +kernel
theorem d_M_read_47 : decode q_M_read.2.1 47 = .ok (.iadd, 1) := by decide +kernel
theorem d_M_read_48 : decode q_M_read.2.1 48 = .ok (.iconst 1, 1) := by decide +kernel
theorem d_M_read_49 : decode q_M_read.2.1 49 = .ok (.isub, 1) := by decide +kernel
theorem d_M_read_50 : decode q_M_read.2.1 50 = .ok (.iaload, 1) := by decide +kernel
theorem d_M_read_51 : decode q_M_read.2.1 51 = .ok (.putfield 245, 3) := by decide +kernel
theorem d_M_read_54 : decode q_M_read.2.1 54 = .ok (.return_, 1) := by decide +kernel
theorem d_M_read_19 : decode q_M_read.2.1 19 = .ok (.iaload, 1) := by decide +kernel
theorem d_M_read_20 : decode q_M_read.2.1 20 = .ok (.iastore, 1) := by decide +kernel
theorem d_M_read_21 : decode q_M_read.2.1 21 = .ok (.aload_n 0, 1) := by decide +kernel
theorem d_M_read_22 : decode q_M_read.2.1 22 = .ok (.getfield 49, 3) := by decide +kernel
theorem d_M_read_25 : decode q_M_read.2.1 25 = .ok (.iload_n 3, 1) := by decide +kernel
theorem d_M_read_26 : decode q_M_read.2.1 26 = .ok (.aload_n 1, 1) := by decide +kernel
theorem d_M_read_27 : decode q_M_read.2.1 27 = .ok (.iload_n 2, 1) := by decide +kernel
theorem d_M_read_28 : decode q_M_read.2.1 28 = .ok (.iconst 2, 1) := by decide +kernel
theorem d_M_read_29 : decode q_M_read.2.1 29 = .ok (.iload_n 3, 1) := by decide +kernel
theorem d_M_read_30 : decode q_M_read.2.1 30 = .ok (.imul, 1) := by decide +kernel
theorem d_M_read_31 : decode q_M_read.2.1 31 = .ok (.iadd, 1) := by decide +kernel
theorem d_M_read_32 : decode q_M_read.2.1 32 = .ok (.iconst 1, 1) := by decide +kernel
theorem d_M_read_33 : decode q_M_read.2.1 33 = .ok (.iadd, 1) := by decide +kernel
theorem d_M_read_34 : decode q_M_read.2.1 34 = .ok (.iaload, 1) := by decide +kernel
theorem d_M_read_35 : decode q_M_read.2.1 35 = .ok (.iastore, 1) := by decide +kernel
theorem d_M_read_36 : decode q_M_read.2.1 36 = .ok (.iinc 3 1, 3) := by decide +kernel
theorem d_M_read_39 : decode q_M_read.2.1 39 = .ok (.goto (-37), 3) := by decide +kernel
theorem d_M_bright_0 : decode q_M_bright.2.1 0 = .ok (.ldc_w 298, 3) := by decide +kernel
theorem ck_M_298 : Cond.constant "GlassRoomModel" 298 (1000000) ∈ rx_gw := (rx_s6 213 rfl rfl)
theorem d_M_bright_3 : decode q_M_bright.2.1 3 = .ok (.istore_n 2, 1) := by decide +kernel
theorem d_M_bright_4 : decode q_M_bright.2.1 4 = .ok (.iconst 0, 1) := by decide +kernel
theorem d_M_bright_5 : decode q_M_bright.2.1 5 = .ok (.istore_n 3, 1) := by decide +kernel
theorem d_M_bright_6 : decode q_M_bright.2.1 6 = .ok (.iload_n 3, 1) := by decide +kernel
theorem d_M_bright_7 : decode q_M_bright.2.1 7 = .ok (.iload_n 1, 1) := by decide +kernel
theorem d_M_bright_8 : decode q_M_bright.2.1 8 = .ok (.if_icmp .ge 22, 3) := by decide +kernel
theorem d_M_bright_11 : decode q_M_bright.2.1 11 = .ok (.iload_n 2, 1) := by decide +kernel
theorem d_M_bright_12 : decode q_M_bright.2.1 12 = .ok (.bipush 100, 2) := by decide +kernel
theorem bp_100 : (Int8.ofInt (100)).toInt32 = (100 : Int32) := by decide
theorem d_M_bright_14 : decode q_M_bright.2.1 14 = .ok (.aload_n 0, 1) := by decide +kernel
theorem d_M_bright_15 : decode q_M_bright.2.1 15 = .ok (.getfield 248, 3) := by decide +kernel
theorem d_M_bright_18 : decode q_M_bright.2.1 18 = .ok (.isub, 1) := by decide +kernel
theorem d_M_bright_19 : decode q_M_bright.2.1 19 = .ok (.imul, 1) := by decide +kernel
theorem d_M_bright_20 : decode q_M_bright.2.1 20 = .ok (.bipush 100, 2) := by decide +kernel
theorem d_M_bright_22 : decode q_M_bright.2.1 22 = .ok (.idiv, 1) := by decide +kernel
theorem d_M_bright_23 : decode q_M_bright.2.1 23 = .ok (.istore_n 2, 1) := by decide +kernel
theorem d_M_bright_24 : decode q_M_bright.2.1 24 = .ok (.iinc 3 1, 3) := by decide +kernel
theorem d_M_bright_27 : decode q_M_bright.2.1 27 = .ok (.goto (-21), 3) := by decide +kernel
theorem d_M_bright_30 : decode q_M_bright.2.1 30 = .ok (.iload_n 2, 1) := by decide +kernel
theorem d_M_bright_31 : decode q_M_bright.2.1 31 = .ok (.ireturn, 1) := by decide +kernel
theorem d_M_beads_0 : decode q_M_beads.2.1 0 = .ok (.iload_n 1, 1) := by decide +kernel
theorem d_M_beads_1 : decode q_M_beads.2.1 1 = .ok (.iconst 1, 1) := by decide +kernel
theorem d_M_beads_2 : decode q_M_beads.2.1 2 = .ok (.bipush 12, 2) := by decide +kernel
theorem d_M_beads_4 : decode q_M_beads.2.1 4 = .ok (.invokestatic 198, 3) := by decide +kernel
theorem d_M_beads_7 : decode q_M_beads.2.1 7 = .ok (.ifCond .eq 12, 3) := by decide +kernel
theorem d_M_beads_19 : decode q_M_beads.2.1 19 = .ok (.iconst (-1), 1) := by decide +kernel
theorem d_M_beads_20 : decode q_M_beads.2.1 20 = .ok (.ireturn, 1) := by decide +kernel
theorem d_M_beads_10 : decode q_M_beads.2.1 10 = .ok (.iload_n 2, 1) := by decide +kernel
theorem d_M_beads_11 : decode q_M_beads.2.1 11 = .ok (.iconst 1, 1) := by decide +kernel
theorem d_M_beads_12 : decode q_M_beads.2.1 12 = .ok (.iconst 4, 1) := by decide +kernel
theorem d_M_beads_13 : decode q_M_beads.2.1 13 = .ok (.invokestatic 198, 3) := by decide +kernel
theorem d_M_beads_16 : decode q_M_beads.2.1 16 = .ok (.ifCond .ne 5, 3) := by decide +kernel
theorem d_M_beads_21 : decode q_M_beads.2.1 21 = .ok (.iconst 1, 1) := by decide +kernel
theorem d_M_beads_22 : decode q_M_beads.2.1 22 = .ok (.istore_n 3, 1) := by decide +kernel
theorem d_M_beads_23 : decode q_M_beads.2.1 23 = .ok (.iconst 1, 1) := by decide +kernel
theorem d_M_beads_24 : decode q_M_beads.2.1 24 = .ok (.istore 4, 2) := by decide +kernel
theorem d_M_beads_26 : decode q_M_beads.2.1 26 = .ok (.iconst 0, 1) := by decide +kernel
theorem d_M_beads_27 : decode q_M_beads.2.1 27 = .ok (.istore 5, 2) := by decide +kernel
theorem d_M_beads_29 : decode q_M_beads.2.1 29 = .ok (.iload 5, 2) := by decide +kernel
theorem d_M_beads_31 : decode q_M_beads.2.1 31 = .ok (.iload_n 1, 1) := by decide +kernel
theorem d_M_beads_32 : decode q_M_beads.2.1 32 = .ok (.if_icmp .ge 30, 3) := by decide +kernel
theorem d_M_beads_35 : decode q_M_beads.2.1 35 = .ok (.iload_n 3, 1) := by decide +kernel
theorem d_M_beads_36 : decode q_M_beads.2.1 36 = .ok (.iload_n 2, 1) := by decide +kernel
theorem d_M_beads_37 : decode q_M_beads.2.1 37 = .ok (.imul, 1) := by decide +kernel
theorem d_M_beads_38 : decode q_M_beads.2.1 38 = .ok (.istore_n 3, 1) := by decide +kernel
theorem d_M_beads_39 : decode q_M_beads.2.1 39 = .ok (.iload 4, 2) := by decide +kernel
theorem d_M_beads_41 : decode q_M_beads.2.1 41 = .ok (.iload 5, 2) := by decide +kernel
theorem d_M_beads_43 : decode q_M_beads.2.1 43 = .ok (.iconst 2, 1) := by decide +kernel
theorem d_M_beads_44 : decode q_M_beads.2.1 44 = .ok (.irem, 1) := by decide +kernel
theorem d_M_beads_45 : decode q_M_beads.2.1 45 = .ok (.ifCond .ne 7, 3) := by decide +kernel
theorem d_M_beads_48 : decode q_M_beads.2.1 48 = .ok (.iload_n 2, 1) := by decide +kernel
theorem d_M_beads_49 : decode q_M_beads.2.1 49 = .ok (.goto 4, 3) := by decide +kernel
theorem d_M_beads_53 : decode q_M_beads.2.1 53 = .ok (.imul, 1) := by decide +kernel
theorem d_M_beads_54 : decode q_M_beads.2.1 54 = .ok (.istore 4, 2) := by decide +kernel
theorem d_M_beads_56 : decode q_M_beads.2.1 56 = .ok (.iinc 5 1, 3) := by decide +kernel
theorem d_M_beads_59 : decode q_M_beads.2.1 59 = .ok (.goto (-30), 3) := by decide +kernel
theorem d_M_beads_62 : decode q_M_beads.2.1 62 = .ok (.iload_n 3, 1) := by decide +kernel
theorem d_M_beads_63 : decode q_M_beads.2.1 63 = .ok (.iload 4, 2) := by decide +kernel
theorem d_M_beads_65 : decode q_M_beads.2.1 65 = .ok (.iadd, 1) := by decide +kernel
theorem d_M_beads_66 : decode q_M_beads.2.1 66 = .ok (.iconst 2, 1) := by decide +kernel
theorem d_M_beads_67 : decode q_M_beads.2.1 67 = .ok (.idiv, 1) := by decide +kernel
theorem d_M_beads_68 : decode q_M_beads.2.1 68 = .ok (.ireturn, 1) := by decide +kernel
theorem d_M_beads_52 : decode q_M_beads.2.1 52 = .ok (.iconst 1, 1) := by decide +kernel
theorem d_M_throwOn_0 : decode q_M_throwOn.2.1 0 = .ok (.iload_n 2, 1) := by decide +kernel
theorem d_M_throwOn_1 : decode q_M_throwOn.2.1 1 = .ok (.istore 4, 2) := by decide +kernel
theorem d_M_throwOn_3 : decode q_M_throwOn.2.1 3 = .ok (.iload_n 3, 1) := by decide +kernel
theorem d_M_throwOn_4 : decode q_M_throwOn.2.1 4 = .ok (.istore 5, 2) := by decide +kernel
theorem d_M_throwOn_6 : decode q_M_throwOn.2.1 6 = .ok (.iconst 0, 1) := by decide +kernel
theorem d_M_throwOn_7 : decode q_M_throwOn.2.1 7 = .ok (.istore 6, 2) := by decide +kernel
theorem d_M_throwOn_9 : decode q_M_throwOn.2.1 9 = .ok (.iconst 1, 1) := by decide +kernel
theorem d_M_throwOn_10 : decode q_M_throwOn.2.1 10 = .ok (.istore 7, 2) := by decide +kernel
theorem d_M_throwOn_12 : decode q_M_throwOn.2.1 12 = .ok (.iload 7, 2) := by decide +kernel
theorem d_M_throwOn_14 : decode q_M_throwOn.2.1 14 = .ok (.ifCond .eq 119, 3) := by decide +kernel
theorem d_M_throwOn_17 : decode q_M_throwOn.2.1 17 = .ok (.iload 5, 2) := by decide +kernel
theorem d_M_throwOn_19 : decode q_M_throwOn.2.1 19 = .ok (.ifCond .eq 8, 3) := by decide +kernel
theorem d_M_throwOn_27 : decode q_M_throwOn.2.1 27 = .ok (.iload 4, 2) := by decide +kernel
theorem d_M_throwOn_29 : decode q_M_throwOn.2.1 29 = .ok (.iload_n 1, 1) := by decide +kernel
theorem d_M_throwOn_30 : decode q_M_throwOn.2.1 30 = .ok (.isub, 1) := by decide +kernel
theorem d_M_throwOn_31 : decode q_M_throwOn.2.1 31 = .ok (.sipush 180, 3) := by decide +kernel
theorem d_M_throwOn_34 : decode q_M_throwOn.2.1 34 = .ok (.iadd, 1) := by decide +kernel
theorem d_M_throwOn_35 : decode q_M_throwOn.2.1 35 = .ok (.sipush 360, 3) := by decide +kernel
theorem d_M_throwOn_133 : decode q_M_throwOn.2.1 133 = .ok (.return_, 1) := by decide +kernel
theorem d_M_throwOn_22 : decode q_M_throwOn.2.1 22 = .ok (.iload 4, 2) := by decide +kernel
theorem d_M_throwOn_24 : decode q_M_throwOn.2.1 24 = .ok (.goto 11, 3) := by decide +kernel
theorem d_M_throwOn_38 : decode q_M_throwOn.2.1 38 = .ok (.invokestatic 374, 3) := by decide +kernel
theorem ml_M_374 : rx_CS "GlassRoomModel" 374 q_Mt_floorMod 2 := ⟨⟨(rx_s7 110 rfl rfl), (rx_s4 197 rfl rfl)⟩, ⟨(rx_s1 16 rfl rfl), q_Mt_floorMod_k, ⟨by decide, by decide, by decide +kernel⟩, by decide⟩⟩
theorem d_M_throwOn_41 : decode q_M_throwOn.2.1 41 = .ok (.istore 8, 2) := by decide +kernel
theorem d_M_throwOn_43 : decode q_M_throwOn.2.1 43 = .ok (.iload 8, 2) := by decide +kernel
theorem d_M_throwOn_45 : decode q_M_throwOn.2.1 45 = .ok (.ifCond .le 15, 3) := by decide +kernel
theorem d_M_throwOn_60 : decode q_M_throwOn.2.1 60 = .ok (.iconst 0, 1) := by decide +kernel
theorem d_M_throwOn_48 : decode q_M_throwOn.2.1 48 = .ok (.iload 8, 2) := by decide +kernel
theorem d_M_throwOn_50 : decode q_M_throwOn.2.1 50 = .ok (.sipush 180, 3) := by decide +kernel
theorem d_M_throwOn_53 : decode q_M_throwOn.2.1 53 = .ok (.if_icmp .ge 7, 3) := by decide +kernel
theorem d_M_throwOn_56 : decode q_M_throwOn.2.1 56 = .ok (.iconst 1, 1) := by decide +kernel
theorem d_M_throwOn_57 : decode q_M_throwOn.2.1 57 = .ok (.goto 4, 3) := by decide +kernel
theorem d_M_throwOn_61 : decode q_M_throwOn.2.1 61 = .ok (.istore 7, 2) := by decide +kernel
theorem d_M_throwOn_63 : decode q_M_throwOn.2.1 63 = .ok (.iload 7, 2) := by decide +kernel
theorem d_M_throwOn_65 : decode q_M_throwOn.2.1 65 = .ok (.ifCond .eq 65, 3) := by decide +kernel
theorem d_M_throwOn_68 : decode q_M_throwOn.2.1 68 = .ok (.iload 5, 2) := by decide +kernel
theorem d_M_throwOn_70 : decode q_M_throwOn.2.1 70 = .ok (.ifCond .eq 9, 3) := by decide +kernel
theorem d_M_throwOn_79 : decode q_M_throwOn.2.1 79 = .ok (.iconst 2, 1) := by decide +kernel
theorem d_M_throwOn_80 : decode q_M_throwOn.2.1 80 = .ok (.iload_n 1, 1) := by decide +kernel
theorem d_M_throwOn_81 : decode q_M_throwOn.2.1 81 = .ok (.imul, 1) := by decide +kernel
theorem d_M_throwOn_82 : decode q_M_throwOn.2.1 82 = .ok (.iload 4, 2) := by decide +kernel
theorem d_M_throwOn_84 : decode q_M_throwOn.2.1 84 = .ok (.isub, 1) := by decide +kernel
theorem d_M_throwOn_85 : decode q_M_throwOn.2.1 85 = .ok (.sipush 360, 3) := by decide +kernel
theorem d_M_throwOn_130 : decode q_M_throwOn.2.1 130 = .ok (.goto (-118), 3) := by decide +kernel
theorem d_M_throwOn_73 : decode q_M_throwOn.2.1 73 = .ok (.iload 4, 2) := by decide +kernel
theorem d_M_throwOn_75 : decode q_M_throwOn.2.1 75 = .ok (.ineg, 1) := by decide +kernel
theorem d_M_throwOn_76 : decode q_M_throwOn.2.1 76 = .ok (.goto 9, 3) := by decide +kernel
theorem d_M_throwOn_88 : decode q_M_throwOn.2.1 88 = .ok (.invokestatic 374, 3) := by decide +kernel
theorem d_M_throwOn_91 : decode q_M_throwOn.2.1 91 = .ok (.istore 4, 2) := by decide +kernel
theorem d_M_throwOn_93 : decode q_M_throwOn.2.1 93 = .ok (.iinc 6 1, 3) := by decide +kernel
theorem d_M_throwOn_96 : decode q_M_throwOn.2.1 96 = .ok (.aload_n 0, 1) := by decide +kernel
theorem d_M_throwOn_97 : decode q_M_throwOn.2.1 97 = .ok (.getfield 71, 3) := by decide +kernel
theorem fl_M_71 : rx_F "GlassRoomModel" 71 12 37 := ⟨(RX12, TX12, 45), rfl, by decide, (rx_s5 136 rfl rfl), rx_T12⟩
theorem d_M_throwOn_100 : decode q_M_throwOn.2.1 100 = .ok (.iload 4, 2) := by decide +kernel
theorem d_M_throwOn_102 : decode q_M_throwOn.2.1 102 = .ok (.iaload, 1) := by decide +kernel
theorem d_M_throwOn_103 : decode q_M_throwOn.2.1 103 = .ok (.iconst (-1), 1) := by decide +kernel
theorem d_M_throwOn_104 : decode q_M_throwOn.2.1 104 = .ok (.if_icmp .ne 14, 3) := by decide +kernel
theorem d_M_throwOn_107 : decode q_M_throwOn.2.1 107 = .ok (.aload_n 0, 1) := by decide +kernel
theorem d_M_throwOn_108 : decode q_M_throwOn.2.1 108 = .ok (.getfield 71, 3) := by decide +kernel
theorem d_M_throwOn_111 : decode q_M_throwOn.2.1 111 = .ok (.iload 4, 2) := by decide +kernel
theorem d_M_throwOn_113 : decode q_M_throwOn.2.1 113 = .ok (.iload 6, 2) := by decide +kernel
theorem d_M_throwOn_115 : decode q_M_throwOn.2.1 115 = .ok (.iconst 2, 1) := by decide +kernel
theorem d_M_throwOn_116 : decode q_M_throwOn.2.1 116 = .ok (.irem, 1) := by decide +kernel
theorem d_M_throwOn_117 : decode q_M_throwOn.2.1 117 = .ok (.iastore, 1) := by decide +kernel
theorem d_M_throwOn_118 : decode q_M_throwOn.2.1 118 = .ok (.iload 5, 2) := by decide +kernel
theorem d_M_throwOn_120 : decode q_M_throwOn.2.1 120 = .ok (.ifCond .ne 7, 3) := by decide +kernel
theorem d_M_throwOn_123 : decode q_M_throwOn.2.1 123 = .ok (.iconst 1, 1) := by decide +kernel
theorem d_M_throwOn_124 : decode q_M_throwOn.2.1 124 = .ok (.goto 4, 3) := by decide +kernel
theorem d_M_throwOn_127 : decode q_M_throwOn.2.1 127 = .ok (.iconst 0, 1) := by decide +kernel
theorem d_M_throwOn_128 : decode q_M_throwOn.2.1 128 = .ok (.istore 5, 2) := by decide +kernel
theorem d_M_isOnPhoto_0 : decode q_M_isOnPhoto.2.1 0 = .ok (.bipush (-2), 2) := by decide +kernel
theorem bp_m2 : (Int8.ofInt (-2)).toInt32 = (-2 : Int32) := by decide
theorem d_M_isOnPhoto_2 : decode q_M_isOnPhoto.2.1 2 = .ok (.istore 4, 2) := by decide +kernel
theorem d_M_isOnPhoto_4 : decode q_M_isOnPhoto.2.1 4 = .ok (.iload 4, 2) := by decide +kernel
theorem d_M_isOnPhoto_6 : decode q_M_isOnPhoto.2.1 6 = .ok (.iconst 2, 1) := by decide +kernel
theorem d_M_isOnPhoto_7 : decode q_M_isOnPhoto.2.1 7 = .ok (.if_icmp .gt 106, 3) := by decide +kernel
theorem d_M_isOnPhoto_113 : decode q_M_isOnPhoto.2.1 113 = .ok (.iconst 0, 1) := by decide +kernel
theorem d_M_isOnPhoto_114 : decode q_M_isOnPhoto.2.1 114 = .ok (.ireturn, 1) := by decide +kernel
theorem d_M_isOnPhoto_10 : decode q_M_isOnPhoto.2.1 10 = .ok (.bipush (-2), 2) := by decide +kernel
theorem d_M_isOnPhoto_12 : decode q_M_isOnPhoto.2.1 12 = .ok (.istore 5, 2) := by decide +kernel
theorem d_M_isOnPhoto_14 : decode q_M_isOnPhoto.2.1 14 = .ok (.iload 5, 2) := by decide +kernel
theorem d_M_isOnPhoto_16 : decode q_M_isOnPhoto.2.1 16 = .ok (.iconst 2, 1) := by decide +kernel
theorem d_M_isOnPhoto_17 : decode q_M_isOnPhoto.2.1 17 = .ok (.if_icmp .gt 90, 3) := by decide +kernel
theorem d_M_isOnPhoto_107 : decode q_M_isOnPhoto.2.1 107 = .ok (.iinc 4 1, 3) := by decide +kernel
theorem d_M_isOnPhoto_110 : decode q_M_isOnPhoto.2.1 110 = .ok (.goto (-106), 3) := by decide +kernel
theorem d_M_isOnPhoto_20 : decode q_M_isOnPhoto.2.1 20 = .ok (.iload 4, 2) := by decide +kernel
theorem d_M_isOnPhoto_22 : decode q_M_isOnPhoto.2.1 22 = .ok (.aload_n 0, 1) := by decide +kernel
theorem d_M_isOnPhoto_23 : decode q_M_isOnPhoto.2.1 23 = .ok (.getfield 239, 3) := by decide +kernel
theorem d_M_isOnPhoto_26 : decode q_M_isOnPhoto.2.1 26 = .ok (.iload_n 2, 1) := by decide +kernel
theorem d_M_isOnPhoto_27 : decode q_M_isOnPhoto.2.1 27 = .ok (.invokestatic 289, 3) := by decide +kernel
theorem d_M_isOnPhoto_30 : decode q_M_isOnPhoto.2.1 30 = .ok (.aload_n 0, 1) := by decide +kernel
theorem d_M_isOnPhoto_31 : decode q_M_isOnPhoto.2.1 31 = .ok (.getfield 46, 3) := by decide +kernel
theorem d_M_isOnPhoto_34 : decode q_M_isOnPhoto.2.1 34 = .ok (.aload_n 0, 1) := by decide +kernel
theorem d_M_isOnPhoto_35 : decode q_M_isOnPhoto.2.1 35 = .ok (.getfield 74, 3) := by decide +kernel
theorem d_M_isOnPhoto_38 : decode q_M_isOnPhoto.2.1 38 = .ok (.iload_n 1, 1) := by decide +kernel
theorem d_M_isOnPhoto_39 : decode q_M_isOnPhoto.2.1 39 = .ok (.iaload, 1) := by decide +kernel
theorem d_M_isOnPhoto_40 : decode q_M_isOnPhoto.2.1 40 = .ok (.iaload, 1) := by decide +kernel
theorem d_M_isOnPhoto_41 : decode q_M_isOnPhoto.2.1 41 = .ok (.isub, 1) := by decide +kernel
theorem d_M_isOnPhoto_42 : decode q_M_isOnPhoto.2.1 42 = .ok (.istore 6, 2) := by decide +kernel
theorem d_M_isOnPhoto_44 : decode q_M_isOnPhoto.2.1 44 = .ok (.iload 5, 2) := by decide +kernel
theorem d_M_isOnPhoto_46 : decode q_M_isOnPhoto.2.1 46 = .ok (.aload_n 0, 1) := by decide +kernel
theorem d_M_isOnPhoto_47 : decode q_M_isOnPhoto.2.1 47 = .ok (.getfield 242, 3) := by decide +kernel
theorem d_M_isOnPhoto_50 : decode q_M_isOnPhoto.2.1 50 = .ok (.iload_n 3, 1) := by decide +kernel
theorem d_M_isOnPhoto_51 : decode q_M_isOnPhoto.2.1 51 = .ok (.invokestatic 289, 3) := by decide +kernel
theorem d_M_isOnPhoto_54 : decode q_M_isOnPhoto.2.1 54 = .ok (.aload_n 0, 1) := by decide +kernel
theorem d_M_isOnPhoto_55 : decode q_M_isOnPhoto.2.1 55 = .ok (.getfield 49, 3) := by decide +kernel
theorem d_M_isOnPhoto_58 : decode q_M_isOnPhoto.2.1 58 = .ok (.aload_n 0, 1) := by decide +kernel
theorem d_M_isOnPhoto_59 : decode q_M_isOnPhoto.2.1 59 = .ok (.getfield 74, 3) := by decide +kernel
theorem d_M_isOnPhoto_62 : decode q_M_isOnPhoto.2.1 62 = .ok (.iload_n 1, 1) := by decide +kernel
theorem d_M_isOnPhoto_63 : decode q_M_isOnPhoto.2.1 63 = .ok (.iaload, 1) := by decide +kernel
theorem d_M_isOnPhoto_64 : decode q_M_isOnPhoto.2.1 64 = .ok (.iaload, 1) := by decide +kernel
theorem d_M_isOnPhoto_65 : decode q_M_isOnPhoto.2.1 65 = .ok (.isub, 1) := by decide +kernel
theorem d_M_isOnPhoto_66 : decode q_M_isOnPhoto.2.1 66 = .ok (.istore 7, 2) := by decide +kernel
theorem d_M_isOnPhoto_68 : decode q_M_isOnPhoto.2.1 68 = .ok (.aload_n 0, 1) := by decide +kernel
theorem d_M_isOnPhoto_69 : decode q_M_isOnPhoto.2.1 69 = .ok (.iload 4, 2) := by decide +kernel
theorem d_M_isOnPhoto_71 : decode q_M_isOnPhoto.2.1 71 = .ok (.iload 5, 2) := by decide +kernel
theorem d_M_isOnPhoto_73 : decode q_M_isOnPhoto.2.1 73 = .ok (.invokevirtual 315, 3) := by decide +kernel
theorem ml_M_315 : rx_CV "GlassRoomModel" 315 q_M_isThere 2 := ⟨⟨(rx_s6 214 rfl rfl), (rx_s6 216 rfl rfl), (rx_s0 56 rfl rfl)⟩, ⟨(rx_s1 13 rfl rfl), q_M_isThere_k, ⟨by decide, by decide, by decide +kernel⟩, by decide⟩⟩
theorem d_M_isOnPhoto_76 : decode q_M_isOnPhoto.2.1 76 = .ok (.ifCond .eq 25, 3) := by decide +kernel
theorem d_M_isOnPhoto_101 : decode q_M_isOnPhoto.2.1 101 = .ok (.iinc 5 1, 3) := by decide +kernel
theorem d_M_isOnPhoto_104 : decode q_M_isOnPhoto.2.1 104 = .ok (.goto (-90), 3) := by decide +kernel
theorem d_M_isOnPhoto_79 : decode q_M_isOnPhoto.2.1 79 = .ok (.iload 6, 2) := by decide +kernel
theorem d_M_isOnPhoto_81 : decode q_M_isOnPhoto.2.1 81 = .ok (.iload 6, 2) := by decide +kernel
theorem d_M_isOnPhoto_83 : decode q_M_isOnPhoto.2.1 83 = .ok (.imul, 1) := by decide +kernel
theorem d_M_isOnPhoto_84 : decode q_M_isOnPhoto.2.1 84 = .ok (.iload 7, 2) := by decide +kernel
theorem d_M_isOnPhoto_86 : decode q_M_isOnPhoto.2.1 86 = .ok (.iload 7, 2) := by decide +kernel
theorem d_M_isOnPhoto_88 : decode q_M_isOnPhoto.2.1 88 = .ok (.imul, 1) := by decide +kernel
theorem d_M_isOnPhoto_89 : decode q_M_isOnPhoto.2.1 89 = .ok (.iadd, 1) := by decide +kernel
theorem d_M_isOnPhoto_90 : decode q_M_isOnPhoto.2.1 90 = .ok (.aload_n 0, 1) := by decide +kernel
theorem d_M_isOnPhoto_91 : decode q_M_isOnPhoto.2.1 91 = .ok (.getfield 77, 3) := by decide +kernel
theorem d_M_isOnPhoto_94 : decode q_M_isOnPhoto.2.1 94 = .ok (.iload_n 1, 1) := by decide +kernel
theorem d_M_isOnPhoto_95 : decode q_M_isOnPhoto.2.1 95 = .ok (.iaload, 1) := by decide +kernel
theorem d_M_isOnPhoto_96 : decode q_M_isOnPhoto.2.1 96 = .ok (.if_icmp .ne 5, 3) := by decide +kernel
theorem d_M_isOnPhoto_99 : decode q_M_isOnPhoto.2.1 99 = .ok (.iconst 1, 1) := by decide +kernel
theorem d_M_isOnPhoto_100 : decode q_M_isOnPhoto.2.1 100 = .ok (.ireturn, 1) := by decide +kernel
set_option maxHeartbeats 4000000 in
set_option maxRecDepth 20000 in
theorem w_M_write_16 {G : rx_Gh} {hp : rx_Hp} {F : rx_Hp → Prop} (a2 : Int32) (H : Rn wM G 1 q_M_write 2 [some (.ref 0), some (.ref 16), some (.int a2), some (.int 0)] [] hp (rV F)) : Ev wM G 1 q_M_write [.ref 0, .ref 16, .int a2] hp (rV F) := by
  refine ev_of rfl (Nat.le_of_ble_eq_true rfl) rfl ?_
  show Rn wM G 1 q_M_write 0 [some (.ref 0), some (.ref 16), some (.int a2), none] [] hp (rV F)
  refine r_iconst d_M_write_0 ic_0 ?_
  refine r_istore_n (i := 3) (lz := [some (.ref 0), some (.ref 16), some (.int a2), some (.int 0)]) d_M_write_1 rfl (by decide) rfl rfl ?_
  exact H
set_option maxHeartbeats 4000000 in
set_option maxRecDepth 20000 in
theorem w_M_write_16_2 {G : rx_Gh} {hp : rx_Hp} {F : rx_Hp → Prop} (x2 : Int32) (x3 : Int32) (H : (6 ≤ x3 → vp_in ((x2 + 13) - 1) 520 ∧ (F (rx_pa hp 16 (((x2 + 13) - 1).toNatClampNeg) (hp.1 0 26)))) ∧ (¬ 6 ≤ x3 → vp_in x3 6 ∧ (vp_in (x2 + (2 * x3)) 520 ∧ (vp_in ((x2 + (2 * x3)) + 1) 520 ∧ (Rn wM G 1 q_M_write 2 [some (.ref 0), some (.ref 16), some (.int x2), some (.int (x3 + 1))] [] (rx_pa (rx_pa hp 16 ((x2 + (2 * x3)).toNatClampNeg) (hp.2.1 13 x3.toNatClampNeg)) 16 (((x2 + (2 * x3)) + 1).toNatClampNeg) (hp.2.1 14 x3.toNatClampNeg)) (rV F)))))) : Rn wM G 1 q_M_write 2 [some (.ref 0), some (.ref 16), some (.int x2), some (.int x3)] [] hp (rV F) := by
  refine r_iload_n (i := 3) d_M_write_2 rfl rfl ?_
  refine r_bipush d_M_write_3 bp_6 ?_
  refine r_icmp_ge (tgt := 42) d_M_write_5 (by decide) (fun hc_5 => ?_) (fun hc_5 => ?_)
  · replace H := H.1 hc_5
    refine r_aload_n (i := 1) d_M_write_42 rfl rfl ?_
    refine r_iload_n (i := 2) d_M_write_43 rfl rfl ?_
    refine r_bipush d_M_write_44 bp_13 ?_
    refine r_iadd d_M_write_46 ?_
    refine r_iconst d_M_write_47 ic_1 ?_
    refine r_isub d_M_write_48 ?_
    refine r_aload_n (i := 0) d_M_write_49 rfl rfl ?_
    refine r_getI (b := 0) (v := hp.1 0 26) d_M_write_50 fl_M_245 (by decide) rfl rfl rfl ?_
    obtain ⟨hi_53, H⟩ := H
    refine r_iast (b := 16) (i := ((x2 + 13) - 1).toNatClampNeg) d_M_write_53 (by decide) rfl hi_53 rfl ?_
    exact rV_ret d_M_write_54 rfl H
  · replace H := H.2 hc_5
    refine r_aload_n (i := 1) d_M_write_8 rfl rfl ?_
    refine r_iload_n (i := 2) d_M_write_9 rfl rfl ?_
    refine r_iconst d_M_write_10 ic_2 ?_
    refine r_iload_n (i := 3) d_M_write_11 rfl rfl ?_
    refine r_imul d_M_write_12 ?_
    refine r_iadd d_M_write_13 ?_
    refine r_aload_n (i := 0) d_M_write_14 rfl rfl ?_
    refine r_getR (b := 0) (r := 13) d_M_write_15 fl_M_46 (by decide) rfl rfl rfl ?_
    refine r_iload_n (i := 3) d_M_write_18 rfl rfl ?_
    obtain ⟨hi_19, H⟩ := H
    refine r_iald (b := 13) (v := hp.2.1 13 x3.toNatClampNeg) d_M_write_19 (by decide) rfl hi_19 rfl ?_
    obtain ⟨hi_20, H⟩ := H
    refine r_iast (b := 16) (i := (x2 + (2 * x3)).toNatClampNeg) d_M_write_20 (by decide) rfl hi_20 rfl ?_
    refine r_aload_n (i := 1) d_M_write_21 rfl rfl ?_
    refine r_iload_n (i := 2) d_M_write_22 rfl rfl ?_
    refine r_iconst d_M_write_23 ic_2 ?_
    refine r_iload_n (i := 3) d_M_write_24 rfl rfl ?_
    refine r_imul d_M_write_25 ?_
    refine r_iadd d_M_write_26 ?_
    refine r_iconst d_M_write_27 ic_1 ?_
    refine r_iadd d_M_write_28 ?_
    refine r_aload_n (i := 0) d_M_write_29 rfl rfl ?_
    refine r_getR (b := 0) (r := 14) d_M_write_30 fl_M_49 (by decide) rfl rfl rfl ?_
    refine r_iload_n (i := 3) d_M_write_33 rfl rfl ?_
    refine r_iald (b := 14) (v := hp.2.1 14 x3.toNatClampNeg) d_M_write_34 (by decide) rfl hi_19 rfl ?_
    obtain ⟨hi_35, H⟩ := H
    refine r_iast (b := 16) (i := ((x2 + (2 * x3)) + 1).toNatClampNeg) d_M_write_35 (by decide) rfl hi_35 rfl ?_
    refine r_iinc (v := x3 + 1) (lz := [some (.ref 0), some (.ref 16), some (.int x2), some (.int (x3 + 1))]) d_M_write_36 rfl (by rw [ic_1]) (by decide) rfl rfl ?_
    refine r_goto (tgt := 2) d_M_write_39 (by decide) ?_
    exact H
set_option maxHeartbeats 4000000 in
set_option maxRecDepth 20000 in
theorem w_M_write_23 {G : rx_Gh} {hp : rx_Hp} {F : rx_Hp → Prop} (a2 : Int32) (H : Rn wM G 1 q_M_write 2 [some (.ref 0), some (.ref 23), some (.int a2), some (.int 0)] [] hp (rV F)) : Ev wM G 1 q_M_write [.ref 0, .ref 23, .int a2] hp (rV F) := by
  refine ev_of rfl (Nat.le_of_ble_eq_true rfl) rfl ?_
  show Rn wM G 1 q_M_write 0 [some (.ref 0), some (.ref 23), some (.int a2), none] [] hp (rV F)
  refine r_iconst d_M_write_0 ic_0 ?_
  refine r_istore_n (i := 3) (lz := [some (.ref 0), some (.ref 23), some (.int a2), some (.int 0)]) d_M_write_1 rfl (by decide) rfl rfl ?_
  exact H
set_option maxHeartbeats 4000000 in
set_option maxRecDepth 20000 in
theorem w_M_write_23_2 {G : rx_Gh} {hp : rx_Hp} {F : rx_Hp → Prop} (x2 : Int32) (x3 : Int32) (H : (6 ≤ x3 → vp_in ((x2 + 13) - 1) 13 ∧ (F (rx_pa hp 23 (((x2 + 13) - 1).toNatClampNeg) (hp.1 0 26)))) ∧ (¬ 6 ≤ x3 → vp_in x3 6 ∧ (vp_in (x2 + (2 * x3)) 13 ∧ (vp_in ((x2 + (2 * x3)) + 1) 13 ∧ (Rn wM G 1 q_M_write 2 [some (.ref 0), some (.ref 23), some (.int x2), some (.int (x3 + 1))] [] (rx_pa (rx_pa hp 23 ((x2 + (2 * x3)).toNatClampNeg) (hp.2.1 13 x3.toNatClampNeg)) 23 (((x2 + (2 * x3)) + 1).toNatClampNeg) (hp.2.1 14 x3.toNatClampNeg)) (rV F)))))) : Rn wM G 1 q_M_write 2 [some (.ref 0), some (.ref 23), some (.int x2), some (.int x3)] [] hp (rV F) := by
  refine r_iload_n (i := 3) d_M_write_2 rfl rfl ?_
  refine r_bipush d_M_write_3 bp_6 ?_
  refine r_icmp_ge (tgt := 42) d_M_write_5 (by decide) (fun hc_5 => ?_) (fun hc_5 => ?_)
  · replace H := H.1 hc_5
    refine r_aload_n (i := 1) d_M_write_42 rfl rfl ?_
    refine r_iload_n (i := 2) d_M_write_43 rfl rfl ?_
    refine r_bipush d_M_write_44 bp_13 ?_
    refine r_iadd d_M_write_46 ?_
    refine r_iconst d_M_write_47 ic_1 ?_
    refine r_isub d_M_write_48 ?_
    refine r_aload_n (i := 0) d_M_write_49 rfl rfl ?_
    refine r_getI (b := 0) (v := hp.1 0 26) d_M_write_50 fl_M_245 (by decide) rfl rfl rfl ?_
    obtain ⟨hi_53, H⟩ := H
    refine r_iast (b := 23) (i := ((x2 + 13) - 1).toNatClampNeg) d_M_write_53 (by decide) rfl hi_53 rfl ?_
    exact rV_ret d_M_write_54 rfl H
  · replace H := H.2 hc_5
    refine r_aload_n (i := 1) d_M_write_8 rfl rfl ?_
    refine r_iload_n (i := 2) d_M_write_9 rfl rfl ?_
    refine r_iconst d_M_write_10 ic_2 ?_
    refine r_iload_n (i := 3) d_M_write_11 rfl rfl ?_
    refine r_imul d_M_write_12 ?_
    refine r_iadd d_M_write_13 ?_
    refine r_aload_n (i := 0) d_M_write_14 rfl rfl ?_
    refine r_getR (b := 0) (r := 13) d_M_write_15 fl_M_46 (by decide) rfl rfl rfl ?_
    refine r_iload_n (i := 3) d_M_write_18 rfl rfl ?_
    obtain ⟨hi_19, H⟩ := H
    refine r_iald (b := 13) (v := hp.2.1 13 x3.toNatClampNeg) d_M_write_19 (by decide) rfl hi_19 rfl ?_
    obtain ⟨hi_20, H⟩ := H
    refine r_iast (b := 23) (i := (x2 + (2 * x3)).toNatClampNeg) d_M_write_20 (by decide) rfl hi_20 rfl ?_
    refine r_aload_n (i := 1) d_M_write_21 rfl rfl ?_
    refine r_iload_n (i := 2) d_M_write_22 rfl rfl ?_
    refine r_iconst d_M_write_23 ic_2 ?_
    refine r_iload_n (i := 3) d_M_write_24 rfl rfl ?_
    refine r_imul d_M_write_25 ?_
    refine r_iadd d_M_write_26 ?_
    refine r_iconst d_M_write_27 ic_1 ?_
    refine r_iadd d_M_write_28 ?_
    refine r_aload_n (i := 0) d_M_write_29 rfl rfl ?_
    refine r_getR (b := 0) (r := 14) d_M_write_30 fl_M_49 (by decide) rfl rfl rfl ?_
    refine r_iload_n (i := 3) d_M_write_33 rfl rfl ?_
    refine r_iald (b := 14) (v := hp.2.1 14 x3.toNatClampNeg) d_M_write_34 (by decide) rfl hi_19 rfl ?_
    obtain ⟨hi_35, H⟩ := H
    refine r_iast (b := 23) (i := ((x2 + (2 * x3)) + 1).toNatClampNeg) d_M_write_35 (by decide) rfl hi_35 rfl ?_
    refine r_iinc (v := x3 + 1) (lz := [some (.ref 0), some (.ref 23), some (.int x2), some (.int (x3 + 1))]) d_M_write_36 rfl (by rw [ic_1]) (by decide) rfl rfl ?_
    refine r_goto (tgt := 2) d_M_write_39 (by decide) ?_
    exact H
set_option maxHeartbeats 4000000 in
set_option maxRecDepth 20000 in
theorem w_M_read_16 {G : rx_Gh} {hp : rx_Hp} {F : rx_Hp → Prop} (a2 : Int32) (H : Rn wM G 1 q_M_read 2 [some (.ref 0), some (.ref 16), some (.int a2), some (.int 0)] [] hp (rV F)) : Ev wM G 1 q_M_read [.ref 0, .ref 16, .int a2] hp (rV F) := by
  refine ev_of rfl (Nat.le_of_ble_eq_true rfl) rfl ?_
  show Rn wM G 1 q_M_read 0 [some (.ref 0), some (.ref 16), some (.int a2), none] [] hp (rV F)
  refine r_iconst d_M_read_0 ic_0 ?_
  refine r_istore_n (i := 3) (lz := [some (.ref 0), some (.ref 16), some (.int a2), some (.int 0)]) d_M_read_1 rfl (by decide) rfl rfl ?_
  exact H
set_option maxHeartbeats 4000000 in
set_option maxRecDepth 20000 in
theorem w_M_read_16_2 {G : rx_Gh} {hp : rx_Hp} {F : rx_Hp → Prop} (x2 : Int32) (x3 : Int32) (H : (6 ≤ x3 → vp_in ((x2 + 13) - 1) 520 ∧ (F (rx_pf hp 0 26 (hp.2.1 16 ((x2 + 13) - 1).toNatClampNeg)))) ∧ (¬ 6 ≤ x3 → vp_in (x2 + (2 * x3)) 520 ∧ (vp_in x3 6 ∧ (vp_in ((x2 + (2 * x3)) + 1) 520 ∧ (Rn wM G 1 q_M_read 2 [some (.ref 0), some (.ref 16), some (.int x2), some (.int (x3 + 1))] [] (rx_pa (rx_pa hp 13 x3.toNatClampNeg (hp.2.1 16 (x2 + (2 * x3)).toNatClampNeg)) 14 x3.toNatClampNeg (hp.2.1 16 ((x2 + (2 * x3)) + 1).toNatClampNeg)) (rV F)))))) : Rn wM G 1 q_M_read 2 [some (.ref 0), some (.ref 16), some (.int x2), some (.int x3)] [] hp (rV F) := by
  refine r_iload_n (i := 3) d_M_read_2 rfl rfl ?_
  refine r_bipush d_M_read_3 bp_6 ?_
  refine r_icmp_ge (tgt := 42) d_M_read_5 (by decide) (fun hc_5 => ?_) (fun hc_5 => ?_)
  · replace H := H.1 hc_5
    refine r_aload_n (i := 0) d_M_read_42 rfl rfl ?_
    refine r_aload_n (i := 1) d_M_read_43 rfl rfl ?_
    refine r_iload_n (i := 2) d_M_read_44 rfl rfl ?_
    refine r_bipush d_M_read_45 bp_13 ?_
    refine r_iadd d_M_read_47 ?_
    refine r_iconst d_M_read_48 ic_1 ?_
    refine r_isub d_M_read_49 ?_
    obtain ⟨hi_50, H⟩ := H
    refine r_iald (b := 16) (v := hp.2.1 16 ((x2 + 13) - 1).toNatClampNeg) d_M_read_50 (by decide) rfl hi_50 rfl ?_
    refine r_putI (b := 0) d_M_read_51 fp_M_245 ⟨rfl, rfl⟩ (by decide) rfl rfl ?_
    exact rV_ret d_M_read_54 rfl H
  · replace H := H.2 hc_5
    refine r_aload_n (i := 0) d_M_read_8 rfl rfl ?_
    refine r_getR (b := 0) (r := 13) d_M_read_9 fl_M_46 (by decide) rfl rfl rfl ?_
    refine r_iload_n (i := 3) d_M_read_12 rfl rfl ?_
    refine r_aload_n (i := 1) d_M_read_13 rfl rfl ?_
    refine r_iload_n (i := 2) d_M_read_14 rfl rfl ?_
    refine r_iconst d_M_read_15 ic_2 ?_
    refine r_iload_n (i := 3) d_M_read_16 rfl rfl ?_
    refine r_imul d_M_read_17 ?_
    refine r_iadd d_M_read_18 ?_
    obtain ⟨hi_19, H⟩ := H
    refine r_iald (b := 16) (v := hp.2.1 16 (x2 + (2 * x3)).toNatClampNeg) d_M_read_19 (by decide) rfl hi_19 rfl ?_
    obtain ⟨hi_20, H⟩ := H
    refine r_iast (b := 13) (i := x3.toNatClampNeg) d_M_read_20 (by decide) rfl hi_20 rfl ?_
    refine r_aload_n (i := 0) d_M_read_21 rfl rfl ?_
    refine r_getR (b := 0) (r := 14) d_M_read_22 fl_M_49 (by decide) rfl rfl rfl ?_
    refine r_iload_n (i := 3) d_M_read_25 rfl rfl ?_
    refine r_aload_n (i := 1) d_M_read_26 rfl rfl ?_
    refine r_iload_n (i := 2) d_M_read_27 rfl rfl ?_
    refine r_iconst d_M_read_28 ic_2 ?_
    refine r_iload_n (i := 3) d_M_read_29 rfl rfl ?_
    refine r_imul d_M_read_30 ?_
    refine r_iadd d_M_read_31 ?_
    refine r_iconst d_M_read_32 ic_1 ?_
    refine r_iadd d_M_read_33 ?_
    obtain ⟨hi_34, H⟩ := H
    refine r_iald (b := 16) (v := hp.2.1 16 ((x2 + (2 * x3)) + 1).toNatClampNeg) d_M_read_34 (by decide) rfl hi_34 rfl ?_
    refine r_iast (b := 14) (i := x3.toNatClampNeg) d_M_read_35 (by decide) rfl hi_20 rfl ?_
    refine r_iinc (v := x3 + 1) (lz := [some (.ref 0), some (.ref 16), some (.int x2), some (.int (x3 + 1))]) d_M_read_36 rfl (by rw [ic_1]) (by decide) rfl rfl ?_
    refine r_goto (tgt := 2) d_M_read_39 (by decide) ?_
    exact H
set_option maxHeartbeats 4000000 in
set_option maxRecDepth 20000 in
theorem w_M_read_23 {G : rx_Gh} {hp : rx_Hp} {F : rx_Hp → Prop} (a2 : Int32) (H : Rn wM G 1 q_M_read 2 [some (.ref 0), some (.ref 23), some (.int a2), some (.int 0)] [] hp (rV F)) : Ev wM G 1 q_M_read [.ref 0, .ref 23, .int a2] hp (rV F) := by
  refine ev_of rfl (Nat.le_of_ble_eq_true rfl) rfl ?_
  show Rn wM G 1 q_M_read 0 [some (.ref 0), some (.ref 23), some (.int a2), none] [] hp (rV F)
  refine r_iconst d_M_read_0 ic_0 ?_
  refine r_istore_n (i := 3) (lz := [some (.ref 0), some (.ref 23), some (.int a2), some (.int 0)]) d_M_read_1 rfl (by decide) rfl rfl ?_
  exact H
set_option maxHeartbeats 4000000 in
set_option maxRecDepth 20000 in
theorem w_M_read_23_2 {G : rx_Gh} {hp : rx_Hp} {F : rx_Hp → Prop} (x2 : Int32) (x3 : Int32) (H : (6 ≤ x3 → vp_in ((x2 + 13) - 1) 13 ∧ (F (rx_pf hp 0 26 (hp.2.1 23 ((x2 + 13) - 1).toNatClampNeg)))) ∧ (¬ 6 ≤ x3 → vp_in (x2 + (2 * x3)) 13 ∧ (vp_in x3 6 ∧ (vp_in ((x2 + (2 * x3)) + 1) 13 ∧ (Rn wM G 1 q_M_read 2 [some (.ref 0), some (.ref 23), some (.int x2), some (.int (x3 + 1))] [] (rx_pa (rx_pa hp 13 x3.toNatClampNeg (hp.2.1 23 (x2 + (2 * x3)).toNatClampNeg)) 14 x3.toNatClampNeg (hp.2.1 23 ((x2 + (2 * x3)) + 1).toNatClampNeg)) (rV F)))))) : Rn wM G 1 q_M_read 2 [some (.ref 0), some (.ref 23), some (.int x2), some (.int x3)] [] hp (rV F) := by
  refine r_iload_n (i := 3) d_M_read_2 rfl rfl ?_
  refine r_bipush d_M_read_3 bp_6 ?_
  refine r_icmp_ge (tgt := 42) d_M_read_5 (by decide) (fun hc_5 => ?_) (fun hc_5 => ?_)
  · replace H := H.1 hc_5
    refine r_aload_n (i := 0) d_M_read_42 rfl rfl ?_
    refine r_aload_n (i := 1) d_M_read_43 rfl rfl ?_
    refine r_iload_n (i := 2) d_M_read_44 rfl rfl ?_
    refine r_bipush d_M_read_45 bp_13 ?_
    refine r_iadd d_M_read_47 ?_
    refine r_iconst d_M_read_48 ic_1 ?_
    refine r_isub d_M_read_49 ?_
    obtain ⟨hi_50, H⟩ := H
    refine r_iald (b := 23) (v := hp.2.1 23 ((x2 + 13) - 1).toNatClampNeg) d_M_read_50 (by decide) rfl hi_50 rfl ?_
    refine r_putI (b := 0) d_M_read_51 fp_M_245 ⟨rfl, rfl⟩ (by decide) rfl rfl ?_
    exact rV_ret d_M_read_54 rfl H
  · replace H := H.2 hc_5
    refine r_aload_n (i := 0) d_M_read_8 rfl rfl ?_
    refine r_getR (b := 0) (r := 13) d_M_read_9 fl_M_46 (by decide) rfl rfl rfl ?_
    refine r_iload_n (i := 3) d_M_read_12 rfl rfl ?_
    refine r_aload_n (i := 1) d_M_read_13 rfl rfl ?_
    refine r_iload_n (i := 2) d_M_read_14 rfl rfl ?_
    refine r_iconst d_M_read_15 ic_2 ?_
    refine r_iload_n (i := 3) d_M_read_16 rfl rfl ?_
    refine r_imul d_M_read_17 ?_
    refine r_iadd d_M_read_18 ?_
    obtain ⟨hi_19, H⟩ := H
    refine r_iald (b := 23) (v := hp.2.1 23 (x2 + (2 * x3)).toNatClampNeg) d_M_read_19 (by decide) rfl hi_19 rfl ?_
    obtain ⟨hi_20, H⟩ := H
    refine r_iast (b := 13) (i := x3.toNatClampNeg) d_M_read_20 (by decide) rfl hi_20 rfl ?_
    refine r_aload_n (i := 0) d_M_read_21 rfl rfl ?_
    refine r_getR (b := 0) (r := 14) d_M_read_22 fl_M_49 (by decide) rfl rfl rfl ?_
    refine r_iload_n (i := 3) d_M_read_25 rfl rfl ?_
    refine r_aload_n (i := 1) d_M_read_26 rfl rfl ?_
    refine r_iload_n (i := 2) d_M_read_27 rfl rfl ?_
    refine r_iconst d_M_read_28 ic_2 ?_
    refine r_iload_n (i := 3) d_M_read_29 rfl rfl ?_
    refine r_imul d_M_read_30 ?_
    refine r_iadd d_M_read_31 ?_
    refine r_iconst d_M_read_32 ic_1 ?_
    refine r_iadd d_M_read_33 ?_
    obtain ⟨hi_34, H⟩ := H
    refine r_iald (b := 23) (v := hp.2.1 23 ((x2 + (2 * x3)) + 1).toNatClampNeg) d_M_read_34 (by decide) rfl hi_34 rfl ?_
    refine r_iast (b := 14) (i := x3.toNatClampNeg) d_M_read_35 (by decide) rfl hi_20 rfl ?_
    refine r_iinc (v := x3 + 1) (lz := [some (.ref 0), some (.ref 23), some (.int x2), some (.int (x3 + 1))]) d_M_read_36 rfl (by rw [ic_1]) (by decide) rfl rfl ?_
    refine r_goto (tgt := 2) d_M_read_39 (by decide) ?_
    exact H
set_option maxHeartbeats 4000000 in
set_option maxRecDepth 20000 in
theorem w_M_bright {G : rx_Gh} {hp : rx_Hp} {F : Int32 → rx_Hp → Prop} (a1 : Int32) (H : Rn wM G 1 q_M_bright 6 [some (.ref 0), some (.int a1), some (.int 1000000), some (.int 0)] [] hp (rI F)) : Ev wM G 1 q_M_bright [.ref 0, .int a1] hp (rI F) := by
  refine ev_of rfl (Nat.le_of_ble_eq_true rfl) rfl ?_
  show Rn wM G 1 q_M_bright 0 [some (.ref 0), some (.int a1), none, none] [] hp (rI F)
  refine r_ldcw d_M_bright_0 ck_M_298 ?_
  refine r_istore_n (i := 2) (lz := [some (.ref 0), some (.int a1), some (.int 1000000), none]) d_M_bright_3 rfl (by decide) rfl rfl ?_
  refine r_iconst d_M_bright_4 ic_0 ?_
  refine r_istore_n (i := 3) (lz := [some (.ref 0), some (.int a1), some (.int 1000000), some (.int 0)]) d_M_bright_5 rfl (by decide) rfl rfl ?_
  exact H
set_option maxHeartbeats 4000000 in
set_option maxRecDepth 20000 in
theorem w_M_bright_6 {G : rx_Gh} {hp : rx_Hp} {F : Int32 → rx_Hp → Prop} (x1 : Int32) (x2 : Int32) (x3 : Int32) (H : (x1 ≤ x3 → F x2 hp) ∧ (¬ x1 ≤ x3 → Rn wM G 1 q_M_bright 6 [some (.ref 0), some (.int x1), some (.int ((x2 * (100 - (hp.1 0 27))) / 100)), some (.int (x3 + 1))] [] hp (rI F))) : Rn wM G 1 q_M_bright 6 [some (.ref 0), some (.int x1), some (.int x2), some (.int x3)] [] hp (rI F) := by
  refine r_iload_n (i := 3) d_M_bright_6 rfl rfl ?_
  refine r_iload_n (i := 1) d_M_bright_7 rfl rfl ?_
  refine r_icmp_ge (tgt := 30) d_M_bright_8 (by decide) (fun hc_8 => ?_) (fun hc_8 => ?_)
  · replace H := H.1 hc_8
    refine r_iload_n (i := 2) d_M_bright_30 rfl rfl ?_
    exact rI_ret d_M_bright_31 rfl H
  · replace H := H.2 hc_8
    refine r_iload_n (i := 2) d_M_bright_11 rfl rfl ?_
    refine r_bipush d_M_bright_12 bp_100 ?_
    refine r_aload_n (i := 0) d_M_bright_14 rfl rfl ?_
    refine r_getI (b := 0) (v := hp.1 0 27) d_M_bright_15 fl_M_248 (by decide) rfl rfl rfl ?_
    refine r_isub d_M_bright_18 ?_
    refine r_imul d_M_bright_19 ?_
    refine r_bipush d_M_bright_20 bp_100 ?_
    refine r_idiv d_M_bright_22 (by decide) ?_
    refine r_istore_n (i := 2) (lz := [some (.ref 0), some (.int x1), some (.int ((x2 * (100 - (hp.1 0 27))) / 100)), some (.int x3)]) d_M_bright_23 rfl (by decide) rfl rfl ?_
    refine r_iinc (v := x3 + 1) (lz := [some (.ref 0), some (.int x1), some (.int ((x2 * (100 - (hp.1 0 27))) / 100)), some (.int (x3 + 1))]) d_M_bright_24 rfl (by rw [ic_1]) (by decide) rfl rfl ?_
    refine r_goto (tgt := 6) d_M_bright_27 (by decide) ?_
    exact H
set_option maxHeartbeats 4000000 in
set_option maxRecDepth 20000 in
theorem w_M_beads {G : rx_Gh} {hp : rx_Hp} {F : Int32 → rx_Hp → Prop} (a1 : Int32) (a2 : Int32) (H : ((f_M_in a1 1 12) = 0 → F (-1) hp) ∧ (¬ (f_M_in a1 1 12) = 0 → ((f_M_in a2 1 4) = 0 → F (-1) hp) ∧ (¬ (f_M_in a2 1 4) = 0 → Rn wM G 2 q_M_beads 29 [none, some (.int a1), some (.int a2), some (.int 1), some (.int 1), some (.int 0)] [] hp (rI F)))) : Ev wM G 2 q_M_beads [.ref 0, .int a1, .int a2] hp (rI F) := by
  refine ev_of rfl (Nat.le_of_ble_eq_true rfl) rfl ?_
  show Rn wM G 2 q_M_beads 0 [some (.ref 0), some (.int a1), some (.int a2), none, none, none] [] hp (rI F)
  refine r_iload_n (i := 1) d_M_beads_0 rfl rfl ?_
  refine r_iconst d_M_beads_1 ic_1 ?_
  refine r_bipush d_M_beads_2 bp_12 ?_
  refine rk_SI (d' := 1) [.int a1, .int 1, .int 12] [] d_M_beads_4 ml_M_198 rfl rfl (by decide) (Nat.le_of_ble_eq_true rfl) (s_M_in a1 1 12 ?_)
  refine r_if_eq (tgt := 19) d_M_beads_7 (by decide) (fun hc_7 => ?_) (fun hc_7 => ?_)
  · replace H := H.1 hc_7
    refine r_iconst d_M_beads_19 ic_m1 ?_
    exact rI_ret d_M_beads_20 rfl H
  · replace H := H.2 hc_7
    refine r_iload_n (i := 2) d_M_beads_10 rfl rfl ?_
    refine r_iconst d_M_beads_11 ic_1 ?_
    refine r_iconst d_M_beads_12 ic_4 ?_
    refine rk_SI (d' := 1) [.int a2, .int 1, .int 4] [] d_M_beads_13 ml_M_198 rfl rfl (by decide) (Nat.le_of_ble_eq_true rfl) (s_M_in a2 1 4 ?_)
    refine r_if_ne (tgt := 21) d_M_beads_16 (by decide) (fun hc_16 => ?_) (fun hc_16 => ?_)
    · replace H := H.2 hc_16
      refine r_iconst d_M_beads_21 ic_1 ?_
      refine r_istore_n (i := 3) (lz := [some (.ref 0), some (.int a1), some (.int a2), some (.int 1), none, none]) d_M_beads_22 rfl (by decide) rfl rfl ?_
      refine r_iconst d_M_beads_23 ic_1 ?_
      refine r_istore (lz := [some (.ref 0), some (.int a1), some (.int a2), some (.int 1), some (.int 1), none]) d_M_beads_24 (by decide) rfl rfl ?_
      refine r_iconst d_M_beads_26 ic_0 ?_
      refine r_istore (lz := [some (.ref 0), some (.int a1), some (.int a2), some (.int 1), some (.int 1), some (.int 0)]) d_M_beads_27 (by decide) rfl rfl ?_
      exact rx_fgt [true] H
    · replace H := H.1 hc_16
      refine r_iconst d_M_beads_19 ic_m1 ?_
      exact rI_ret d_M_beads_20 rfl H
set_option maxHeartbeats 4000000 in
set_option maxRecDepth 20000 in
theorem w_M_beads_29 {G : rx_Gh} {hp : rx_Hp} {F : Int32 → rx_Hp → Prop} (x1 : Int32) (x2 : Int32) (x3 : Int32) (x4 : Int32) (x5 : Int32) (H : (x1 ≤ x5 → F ((x3 + x4) / 2) hp) ∧ (¬ x1 ≤ x5 → Rn wM G 2 q_M_beads 29 [none, some (.int x1), some (.int x2), some (.int (x3 * x2)), some (.int (x4 * ((if (x5 - x5 / 2 * 2) = 0 then x2 else 1) : Int32))), some (.int (x5 + 1))] [] hp (rI F))) : Rn wM G 2 q_M_beads 29 [none, some (.int x1), some (.int x2), some (.int x3), some (.int x4), some (.int x5)] [] hp (rI F) := by
  refine r_iload d_M_beads_29 rfl ?_
  refine r_iload_n (i := 1) d_M_beads_31 rfl rfl ?_
  refine r_icmp_ge (tgt := 62) d_M_beads_32 (by decide) (fun hc_32 => ?_) (fun hc_32 => ?_)
  · replace H := H.1 hc_32
    refine r_iload_n (i := 3) d_M_beads_62 rfl rfl ?_
    refine r_iload d_M_beads_63 rfl ?_
    refine r_iadd d_M_beads_65 ?_
    refine r_iconst d_M_beads_66 ic_2 ?_
    refine r_idiv d_M_beads_67 (by decide) ?_
    exact rI_ret d_M_beads_68 rfl H
  · replace H := H.2 hc_32
    have J45 : ∀ (v45_0 : Int32), v45_0 = ((if (x5 - x5 / 2 * 2) = 0 then x2 else 1) : Int32) → Rn wM G 2 q_M_beads 53 [none, some (.int x1), some (.int x2), some (.int (x3 * x2)), some (.int x4), some (.int x5)] [.int v45_0, .int x4] hp (rI F) := by
      rintro _ rfl
      refine r_imul d_M_beads_53 ?_
      refine r_istore (lz := [none, some (.int x1), some (.int x2), some (.int (x3 * x2)), some (.int (x4 * ((if (x5 - x5 / 2 * 2) = 0 then x2 else 1) : Int32))), some (.int x5)]) d_M_beads_54 (by decide) rfl rfl ?_
      refine r_iinc (v := x5 + 1) (lz := [none, some (.int x1), some (.int x2), some (.int (x3 * x2)), some (.int (x4 * ((if (x5 - x5 / 2 * 2) = 0 then x2 else 1) : Int32))), some (.int (x5 + 1))]) d_M_beads_56 rfl (by rw [ic_1]) (by decide) rfl rfl ?_
      refine r_goto (tgt := 29) d_M_beads_59 (by decide) ?_
      exact H
    refine r_iload_n (i := 3) d_M_beads_35 rfl rfl ?_
    refine r_iload_n (i := 2) d_M_beads_36 rfl rfl ?_
    refine r_imul d_M_beads_37 ?_
    refine r_istore_n (i := 3) (lz := [none, some (.int x1), some (.int x2), some (.int (x3 * x2)), some (.int x4), some (.int x5)]) d_M_beads_38 rfl (by decide) rfl rfl ?_
    refine r_iload d_M_beads_39 rfl ?_
    refine r_iload d_M_beads_41 rfl ?_
    refine r_iconst d_M_beads_43 ic_2 ?_
    refine r_irem d_M_beads_44 (by decide) ?_
    refine r_if_ne (tgt := 52) d_M_beads_45 (by decide) (fun hc_45 => ?_) (fun hc_45 => ?_)
    · refine r_iconst d_M_beads_52 ic_1 ?_
      exact J45 _ (((if_neg hc_45).trans rfl)).symm
    · refine r_iload_n (i := 2) d_M_beads_48 rfl rfl ?_
      refine r_goto (tgt := 53) d_M_beads_49 (by decide) ?_
      exact J45 _ (((if_pos hc_45).trans rfl)).symm
set_option maxHeartbeats 4000000 in
set_option maxRecDepth 20000 in
theorem w_M_throwOn {G : rx_Gh} {hp : rx_Hp} {F : rx_Hp → Prop} (a1 : Int32) (a2 : Int32) (a3 : Int32) (H : Rn wM G 2 q_M_throwOn 12 [some (.ref 0), some (.int a1), none, none, some (.int a2), some (.int a3), some (.int 0), some (.int 1), none] [] hp (rV F)) : Ev wM G 2 q_M_throwOn [.ref 0, .int a1, .int a2, .int a3] hp (rV F) := by
  refine ev_of rfl (Nat.le_of_ble_eq_true rfl) rfl ?_
  show Rn wM G 2 q_M_throwOn 0 [some (.ref 0), some (.int a1), some (.int a2), some (.int a3), none, none, none, none, none] [] hp (rV F)
  refine r_iload_n (i := 2) d_M_throwOn_0 rfl rfl ?_
  refine r_istore (lz := [some (.ref 0), some (.int a1), some (.int a2), some (.int a3), some (.int a2), none, none, none, none]) d_M_throwOn_1 (by decide) rfl rfl ?_
  refine r_iload_n (i := 3) d_M_throwOn_3 rfl rfl ?_
  refine r_istore (lz := [some (.ref 0), some (.int a1), some (.int a2), some (.int a3), some (.int a2), some (.int a3), none, none, none]) d_M_throwOn_4 (by decide) rfl rfl ?_
  refine r_iconst d_M_throwOn_6 ic_0 ?_
  refine r_istore (lz := [some (.ref 0), some (.int a1), some (.int a2), some (.int a3), some (.int a2), some (.int a3), some (.int 0), none, none]) d_M_throwOn_7 (by decide) rfl rfl ?_
  refine r_iconst d_M_throwOn_9 ic_1 ?_
  refine r_istore (lz := [some (.ref 0), some (.int a1), some (.int a2), some (.int a3), some (.int a2), some (.int a3), some (.int 0), some (.int 1), none]) d_M_throwOn_10 (by decide) rfl rfl ?_
  exact rx_fgt [false, false, true, true] H
set_option maxHeartbeats 4000000 in
set_option maxRecDepth 20000 in
theorem w_M_throwOn_12 {G : rx_Gh} {hp : rx_Hp} {F : rx_Hp → Prop} (x1 : Int32) (x4 : Int32) (x5 : Int32) (x6 : Int32) (x7 : Int32) (H : (x7 = 0 → F hp) ∧ (¬ x7 = 0 → p_Mt_floorMod ((if x5 = 0 then ((x4 - x1) + 180) else x4) : Int32) 360 ∧ ((((if (f_Mt_floorMod ((if x5 = 0 then ((x4 - x1) + 180) else x4) : Int32) 360) ≤ 0 then 0 else ((if 180 ≤ (f_Mt_floorMod ((if x5 = 0 then ((x4 - x1) + 180) else x4) : Int32) 360) then 0 else 1) : Int32)) : Int32) = 0 → Rn wM G 2 q_M_throwOn 12 [some (.ref 0), some (.int x1), none, none, some (.int x4), some (.int x5), some (.int x6), some (.int ((if (f_Mt_floorMod ((if x5 = 0 then ((x4 - x1) + 180) else x4) : Int32) 360) ≤ 0 then 0 else ((if 180 ≤ (f_Mt_floorMod ((if x5 = 0 then ((x4 - x1) + 180) else x4) : Int32) 360) then 0 else 1) : Int32)) : Int32)), none] [] hp (rV F)) ∧ (¬ ((if (f_Mt_floorMod ((if x5 = 0 then ((x4 - x1) + 180) else x4) : Int32) 360) ≤ 0 then 0 else ((if 180 ≤ (f_Mt_floorMod ((if x5 = 0 then ((x4 - x1) + 180) else x4) : Int32) 360) then 0 else 1) : Int32)) : Int32) = 0 → p_Mt_floorMod ((if x5 = 0 then ((2 * x1) - x4) else (-x4)) : Int32) 360 ∧ (vp_in (f_Mt_floorMod ((if x5 = 0 then ((2 * x1) - x4) else (-x4)) : Int32) 360) 360 ∧ (((hp.2.1 20 (f_Mt_floorMod ((if x5 = 0 then ((2 * x1) - x4) else (-x4)) : Int32) 360).toNatClampNeg) = (-1) → Rn wM G 2 q_M_throwOn 12 [some (.ref 0), some (.int x1), none, none, some (.int (f_Mt_floorMod ((if x5 = 0 then ((2 * x1) - x4) else (-x4)) : Int32) 360)), some (.int ((if x5 = 0 then 1 else 0) : Int32)), some (.int (x6 + 1)), some (.int ((if (f_Mt_floorMod ((if x5 = 0 then ((x4 - x1) + 180) else x4) : Int32) 360) ≤ 0 then 0 else ((if 180 ≤ (f_Mt_floorMod ((if x5 = 0 then ((x4 - x1) + 180) else x4) : Int32) 360) then 0 else 1) : Int32)) : Int32)), none] [] (rx_pa hp 20 ((f_Mt_floorMod ((if x5 = 0 then ((2 * x1) - x4) else (-x4)) : Int32) 360).toNatClampNeg) ((x6 + 1) - (x6 + 1) / 2 * 2)) (rV F)) ∧ (¬ (hp.2.1 20 (f_Mt_floorMod ((if x5 = 0 then ((2 * x1) - x4) else (-x4)) : Int32) 360).toNatClampNeg) = (-1) → Rn wM G 2 q_M_throwOn 12 [some (.ref 0), some (.int x1), none, none, some (.int (f_Mt_floorMod ((if x5 = 0 then ((2 * x1) - x4) else (-x4)) : Int32) 360)), some (.int ((if x5 = 0 then 1 else 0) : Int32)), some (.int (x6 + 1)), some (.int ((if (f_Mt_floorMod ((if x5 = 0 then ((x4 - x1) + 180) else x4) : Int32) 360) ≤ 0 then 0 else ((if 180 ≤ (f_Mt_floorMod ((if x5 = 0 then ((x4 - x1) + 180) else x4) : Int32) 360) then 0 else 1) : Int32)) : Int32)), none] [] hp (rV F)))))))) : Rn wM G 2 q_M_throwOn 12 [some (.ref 0), some (.int x1), none, none, some (.int x4), some (.int x5), some (.int x6), some (.int x7), none] [] hp (rV F) := by
  refine r_iload d_M_throwOn_12 rfl ?_
  refine r_if_eq (tgt := 133) d_M_throwOn_14 (by decide) (fun hc_14 => ?_) (fun hc_14 => ?_)
  · replace H := H.1 hc_14
    exact rV_ret d_M_throwOn_133 rfl H
  · replace H := H.2 hc_14
    have J19 : ∀ (v19_0 : Int32), v19_0 = ((if x5 = 0 then ((x4 - x1) + 180) else x4) : Int32) → Rn wM G 2 q_M_throwOn 35 [some (.ref 0), some (.int x1), none, none, some (.int x4), some (.int x5), some (.int x6), some (.int x7), none] [.int v19_0] hp (rV F) := by
      rintro _ rfl
      refine r_sipush d_M_throwOn_35 sp_360 ?_
      obtain ⟨hp_38_0, H⟩ := H
      refine rk_SI (d' := 1) [.int ((if x5 = 0 then ((x4 - x1) + 180) else x4) : Int32), .int 360] [] d_M_throwOn_38 ml_M_374 rfl rfl (by decide) (Nat.le_of_ble_eq_true rfl) (s_Mt_floorMod ((if x5 = 0 then ((x4 - x1) + 180) else x4) : Int32) 360 hp_38_0 ?_)
      have J45 : ∀ (v45_0 : Int32), v45_0 = ((if (f_Mt_floorMod ((if x5 = 0 then ((x4 - x1) + 180) else x4) : Int32) 360) ≤ 0 then 0 else ((if 180 ≤ (f_Mt_floorMod ((if x5 = 0 then ((x4 - x1) + 180) else x4) : Int32) 360) then 0 else 1) : Int32)) : Int32) → Rn wM G 2 q_M_throwOn 61 [some (.ref 0), some (.int x1), none, none, some (.int x4), some (.int x5), some (.int x6), some (.int x7), some (.int (f_Mt_floorMod ((if x5 = 0 then ((x4 - x1) + 180) else x4) : Int32) 360))] [.int v45_0] hp (rV F) := by
        rintro _ rfl
        refine r_istore (lz := [some (.ref 0), some (.int x1), none, none, some (.int x4), some (.int x5), some (.int x6), some (.int ((if (f_Mt_floorMod ((if x5 = 0 then ((x4 - x1) + 180) else x4) : Int32) 360) ≤ 0 then 0 else ((if 180 ≤ (f_Mt_floorMod ((if x5 = 0 then ((x4 - x1) + 180) else x4) : Int32) 360) then 0 else 1) : Int32)) : Int32)), some (.int (f_Mt_floorMod ((if x5 = 0 then ((x4 - x1) + 180) else x4) : Int32) 360))]) d_M_throwOn_61 (by decide) rfl rfl ?_
        refine r_iload d_M_throwOn_63 rfl ?_
        refine r_if_eq (tgt := 130) d_M_throwOn_65 (by decide) (fun hc_65 => ?_) (fun hc_65 => ?_)
        · replace H := H.1 hc_65
          refine r_goto (tgt := 12) d_M_throwOn_130 (by decide) ?_
          exact rx_fgt [false, false, false, false, false, false, false, false, true] H
        · replace H := H.2 hc_65
          have J70 : ∀ (v70_0 : Int32), v70_0 = ((if x5 = 0 then ((2 * x1) - x4) else (-x4)) : Int32) → Rn wM G 2 q_M_throwOn 85 [some (.ref 0), some (.int x1), none, none, some (.int x4), some (.int x5), some (.int x6), some (.int ((if (f_Mt_floorMod ((if x5 = 0 then ((x4 - x1) + 180) else x4) : Int32) 360) ≤ 0 then 0 else ((if 180 ≤ (f_Mt_floorMod ((if x5 = 0 then ((x4 - x1) + 180) else x4) : Int32) 360) then 0 else 1) : Int32)) : Int32)), some (.int (f_Mt_floorMod ((if x5 = 0 then ((x4 - x1) + 180) else x4) : Int32) 360))] [.int v70_0] hp (rV F) := by
            rintro _ rfl
            refine r_sipush d_M_throwOn_85 sp_360 ?_
            obtain ⟨hp_88_0, H⟩ := H
            refine rk_SI (d' := 1) [.int ((if x5 = 0 then ((2 * x1) - x4) else (-x4)) : Int32), .int 360] [] d_M_throwOn_88 ml_M_374 rfl rfl (by decide) (Nat.le_of_ble_eq_true rfl) (s_Mt_floorMod ((if x5 = 0 then ((2 * x1) - x4) else (-x4)) : Int32) 360 hp_88_0 ?_)
            refine r_istore (lz := [some (.ref 0), some (.int x1), none, none, some (.int (f_Mt_floorMod ((if x5 = 0 then ((2 * x1) - x4) else (-x4)) : Int32) 360)), some (.int x5), some (.int x6), some (.int ((if (f_Mt_floorMod ((if x5 = 0 then ((x4 - x1) + 180) else x4) : Int32) 360) ≤ 0 then 0 else ((if 180 ≤ (f_Mt_floorMod ((if x5 = 0 then ((x4 - x1) + 180) else x4) : Int32) 360) then 0 else 1) : Int32)) : Int32)), some (.int (f_Mt_floorMod ((if x5 = 0 then ((x4 - x1) + 180) else x4) : Int32) 360))]) d_M_throwOn_91 (by decide) rfl rfl ?_
            refine r_iinc (v := x6 + 1) (lz := [some (.ref 0), some (.int x1), none, none, some (.int (f_Mt_floorMod ((if x5 = 0 then ((2 * x1) - x4) else (-x4)) : Int32) 360)), some (.int x5), some (.int (x6 + 1)), some (.int ((if (f_Mt_floorMod ((if x5 = 0 then ((x4 - x1) + 180) else x4) : Int32) 360) ≤ 0 then 0 else ((if 180 ≤ (f_Mt_floorMod ((if x5 = 0 then ((x4 - x1) + 180) else x4) : Int32) 360) then 0 else 1) : Int32)) : Int32)), some (.int (f_Mt_floorMod ((if x5 = 0 then ((x4 - x1) + 180) else x4) : Int32) 360))]) d_M_throwOn_93 rfl (by rw [ic_1]) (by decide) rfl rfl ?_
            refine r_aload_n (i := 0) d_M_throwOn_96 rfl rfl ?_
            refine r_getR (b := 0) (r := 20) d_M_throwOn_97 fl_M_71 (by decide) rfl rfl rfl ?_
            refine r_iload d_M_throwOn_100 rfl ?_
            obtain ⟨hi_102, H⟩ := H
            refine r_iald (b := 20) (v := hp.2.1 20 (f_Mt_floorMod ((if x5 = 0 then ((2 * x1) - x4) else (-x4)) : Int32) 360).toNatClampNeg) d_M_throwOn_102 (by decide) rfl hi_102 rfl ?_
            refine r_iconst d_M_throwOn_103 ic_m1 ?_
            refine r_icmp_ne (tgt := 118) d_M_throwOn_104 (by decide) (fun hc_104 => ?_) (fun hc_104 => ?_)
            · replace H := H.2 hc_104
              have J120 : ∀ (v120_0 : Int32), v120_0 = ((if x5 = 0 then 1 else 0) : Int32) → Rn wM G 2 q_M_throwOn 128 [some (.ref 0), some (.int x1), none, none, some (.int (f_Mt_floorMod ((if x5 = 0 then ((2 * x1) - x4) else (-x4)) : Int32) 360)), some (.int x5), some (.int (x6 + 1)), some (.int ((if (f_Mt_floorMod ((if x5 = 0 then ((x4 - x1) + 180) else x4) : Int32) 360) ≤ 0 then 0 else ((if 180 ≤ (f_Mt_floorMod ((if x5 = 0 then ((x4 - x1) + 180) else x4) : Int32) 360) then 0 else 1) : Int32)) : Int32)), some (.int (f_Mt_floorMod ((if x5 = 0 then ((x4 - x1) + 180) else x4) : Int32) 360))] [.int v120_0] hp (rV F) := by
                rintro _ rfl
                refine r_istore (lz := [some (.ref 0), some (.int x1), none, none, some (.int (f_Mt_floorMod ((if x5 = 0 then ((2 * x1) - x4) else (-x4)) : Int32) 360)), some (.int ((if x5 = 0 then 1 else 0) : Int32)), some (.int (x6 + 1)), some (.int ((if (f_Mt_floorMod ((if x5 = 0 then ((x4 - x1) + 180) else x4) : Int32) 360) ≤ 0 then 0 else ((if 180 ≤ (f_Mt_floorMod ((if x5 = 0 then ((x4 - x1) + 180) else x4) : Int32) 360) then 0 else 1) : Int32)) : Int32)), some (.int (f_Mt_floorMod ((if x5 = 0 then ((x4 - x1) + 180) else x4) : Int32) 360))]) d_M_throwOn_128 (by decide) rfl rfl ?_
                refine r_goto (tgt := 12) d_M_throwOn_130 (by decide) ?_
                exact rx_fgt [false, false, false, false, false, false, false, false, true] H
              refine r_iload d_M_throwOn_118 rfl ?_
              refine r_if_ne (tgt := 127) d_M_throwOn_120 (by decide) (fun hc_120 => ?_) (fun hc_120 => ?_)
              · refine r_iconst d_M_throwOn_127 ic_0 ?_
                exact J120 _ (((if_neg hc_120).trans rfl)).symm
              · refine r_iconst d_M_throwOn_123 ic_1 ?_
                refine r_goto (tgt := 128) d_M_throwOn_124 (by decide) ?_
                exact J120 _ (((if_pos hc_120).trans rfl)).symm
            · replace H := H.1 hc_104
              have J120 : ∀ (v120_0 : Int32), v120_0 = ((if x5 = 0 then 1 else 0) : Int32) → Rn wM G 2 q_M_throwOn 128 [some (.ref 0), some (.int x1), none, none, some (.int (f_Mt_floorMod ((if x5 = 0 then ((2 * x1) - x4) else (-x4)) : Int32) 360)), some (.int x5), some (.int (x6 + 1)), some (.int ((if (f_Mt_floorMod ((if x5 = 0 then ((x4 - x1) + 180) else x4) : Int32) 360) ≤ 0 then 0 else ((if 180 ≤ (f_Mt_floorMod ((if x5 = 0 then ((x4 - x1) + 180) else x4) : Int32) 360) then 0 else 1) : Int32)) : Int32)), some (.int (f_Mt_floorMod ((if x5 = 0 then ((x4 - x1) + 180) else x4) : Int32) 360))] [.int v120_0] (rx_pa hp 20 ((f_Mt_floorMod ((if x5 = 0 then ((2 * x1) - x4) else (-x4)) : Int32) 360).toNatClampNeg) ((x6 + 1) - (x6 + 1) / 2 * 2)) (rV F) := by
                rintro _ rfl
                refine r_istore (lz := [some (.ref 0), some (.int x1), none, none, some (.int (f_Mt_floorMod ((if x5 = 0 then ((2 * x1) - x4) else (-x4)) : Int32) 360)), some (.int ((if x5 = 0 then 1 else 0) : Int32)), some (.int (x6 + 1)), some (.int ((if (f_Mt_floorMod ((if x5 = 0 then ((x4 - x1) + 180) else x4) : Int32) 360) ≤ 0 then 0 else ((if 180 ≤ (f_Mt_floorMod ((if x5 = 0 then ((x4 - x1) + 180) else x4) : Int32) 360) then 0 else 1) : Int32)) : Int32)), some (.int (f_Mt_floorMod ((if x5 = 0 then ((x4 - x1) + 180) else x4) : Int32) 360))]) d_M_throwOn_128 (by decide) rfl rfl ?_
                refine r_goto (tgt := 12) d_M_throwOn_130 (by decide) ?_
                exact rx_fgt [false, false, false, false, false, false, false, false, true] H
              refine r_aload_n (i := 0) d_M_throwOn_107 rfl rfl ?_
              refine r_getR (b := 0) (r := 20) d_M_throwOn_108 fl_M_71 (by decide) rfl rfl rfl ?_
              refine r_iload d_M_throwOn_111 rfl ?_
              refine r_iload d_M_throwOn_113 rfl ?_
              refine r_iconst d_M_throwOn_115 ic_2 ?_
              refine r_irem d_M_throwOn_116 (by decide) ?_
              refine r_iast (b := 20) (i := (f_Mt_floorMod ((if x5 = 0 then ((2 * x1) - x4) else (-x4)) : Int32) 360).toNatClampNeg) d_M_throwOn_117 (by decide) rfl hi_102 rfl ?_
              refine r_iload d_M_throwOn_118 rfl ?_
              refine r_if_ne (tgt := 127) d_M_throwOn_120 (by decide) (fun hc_120 => ?_) (fun hc_120 => ?_)
              · refine r_iconst d_M_throwOn_127 ic_0 ?_
                exact J120 _ (((if_neg hc_120).trans rfl)).symm
              · refine r_iconst d_M_throwOn_123 ic_1 ?_
                refine r_goto (tgt := 128) d_M_throwOn_124 (by decide) ?_
                exact J120 _ (((if_pos hc_120).trans rfl)).symm
          refine r_iload d_M_throwOn_68 rfl ?_
          refine r_if_eq (tgt := 79) d_M_throwOn_70 (by decide) (fun hc_70 => ?_) (fun hc_70 => ?_)
          · refine r_iconst d_M_throwOn_79 ic_2 ?_
            refine r_iload_n (i := 1) d_M_throwOn_80 rfl rfl ?_
            refine r_imul d_M_throwOn_81 ?_
            refine r_iload d_M_throwOn_82 rfl ?_
            refine r_isub d_M_throwOn_84 ?_
            exact J70 _ (((if_pos hc_70).trans rfl)).symm
          · refine r_iload d_M_throwOn_73 rfl ?_
            refine r_ineg d_M_throwOn_75 ?_
            refine r_goto (tgt := 85) d_M_throwOn_76 (by decide) ?_
            exact J70 _ (((if_neg hc_70).trans rfl)).symm
      refine r_istore (lz := [some (.ref 0), some (.int x1), none, none, some (.int x4), some (.int x5), some (.int x6), some (.int x7), some (.int (f_Mt_floorMod ((if x5 = 0 then ((x4 - x1) + 180) else x4) : Int32) 360))]) d_M_throwOn_41 (by decide) rfl rfl ?_
      refine r_iload d_M_throwOn_43 rfl ?_
      refine r_if_le (tgt := 60) d_M_throwOn_45 (by decide) (fun hc_45 => ?_) (fun hc_45 => ?_)
      · refine r_iconst d_M_throwOn_60 ic_0 ?_
        exact J45 _ (((if_pos hc_45).trans rfl)).symm
      · refine r_iload d_M_throwOn_48 rfl ?_
        refine r_sipush d_M_throwOn_50 sp_180 ?_
        refine r_icmp_ge (tgt := 60) d_M_throwOn_53 (by decide) (fun hc_53 => ?_) (fun hc_53 => ?_)
        · refine r_iconst d_M_throwOn_60 ic_0 ?_
          exact J45 _ (((if_neg hc_45).trans ((if_pos hc_53).trans rfl))).symm
        · refine r_iconst d_M_throwOn_56 ic_1 ?_
          refine r_goto (tgt := 61) d_M_throwOn_57 (by decide) ?_
          exact J45 _ (((if_neg hc_45).trans ((if_neg hc_53).trans rfl))).symm
    refine r_iload d_M_throwOn_17 rfl ?_
    refine r_if_eq (tgt := 27) d_M_throwOn_19 (by decide) (fun hc_19 => ?_) (fun hc_19 => ?_)
    · refine r_iload d_M_throwOn_27 rfl ?_
      refine r_iload_n (i := 1) d_M_throwOn_29 rfl rfl ?_
      refine r_isub d_M_throwOn_30 ?_
      refine r_sipush d_M_throwOn_31 sp_180 ?_
      refine r_iadd d_M_throwOn_34 ?_
      exact J19 _ (((if_pos hc_19).trans rfl)).symm
    · refine r_iload d_M_throwOn_22 rfl ?_
      refine r_goto (tgt := 35) d_M_throwOn_24 (by decide) ?_
      exact J19 _ (((if_neg hc_19).trans rfl)).symm
set_option maxHeartbeats 4000000 in
set_option maxRecDepth 20000 in
theorem w_M_isOnPhoto {G : rx_Gh} {hp : rx_Hp} {F : Int32 → rx_Hp → Prop} (a1 : Int32) (a2 : Int32) (a3 : Int32) (H : Rn wM G 4 q_M_isOnPhoto 4 [some (.ref 0), some (.int a1), some (.int a2), some (.int a3), some (.int (-2)), none, none, none] [] hp (rI F)) : Ev wM G 4 q_M_isOnPhoto [.ref 0, .int a1, .int a2, .int a3] hp (rI F) := by
  refine ev_of rfl (Nat.le_of_ble_eq_true rfl) rfl ?_
  show Rn wM G 4 q_M_isOnPhoto 0 [some (.ref 0), some (.int a1), some (.int a2), some (.int a3), none, none, none, none] [] hp (rI F)
  refine r_bipush d_M_isOnPhoto_0 bp_m2 ?_
  refine r_istore (lz := [some (.ref 0), some (.int a1), some (.int a2), some (.int a3), some (.int (-2)), none, none, none]) d_M_isOnPhoto_2 (by decide) rfl rfl ?_
  exact H
set_option maxHeartbeats 4000000 in
set_option maxRecDepth 20000 in
theorem w_M_isOnPhoto_4 {G : rx_Gh} {hp : rx_Hp} {F : Int32 → rx_Hp → Prop} (x1 : Int32) (x2 : Int32) (x3 : Int32) (x4 : Int32) (H : (2 < x4 → F 0 hp) ∧ (¬ 2 < x4 → Rn wM G 4 q_M_isOnPhoto 14 [some (.ref 0), some (.int x1), some (.int x2), some (.int x3), some (.int x4), some (.int (-2)), none, none] [] hp (rI F))) : Rn wM G 4 q_M_isOnPhoto 4 [some (.ref 0), some (.int x1), some (.int x2), some (.int x3), some (.int x4), none, none, none] [] hp (rI F) := by
  refine r_iload d_M_isOnPhoto_4 rfl ?_
  refine r_iconst d_M_isOnPhoto_6 ic_2 ?_
  refine r_icmp_gt (tgt := 113) d_M_isOnPhoto_7 (by decide) (fun hc_7 => ?_) (fun hc_7 => ?_)
  · replace H := H.1 hc_7
    refine r_iconst d_M_isOnPhoto_113 ic_0 ?_
    exact rZ_ret d_M_isOnPhoto_114 rfl (Or.inl rfl) H
  · replace H := H.2 hc_7
    refine r_bipush d_M_isOnPhoto_10 bp_m2 ?_
    refine r_istore (lz := [some (.ref 0), some (.int x1), some (.int x2), some (.int x3), some (.int x4), some (.int (-2)), none, none]) d_M_isOnPhoto_12 (by decide) rfl rfl ?_
    exact H
set_option maxHeartbeats 4000000 in
set_option maxRecDepth 20000 in
theorem w_M_isOnPhoto_14 {G : rx_Gh} {hp : rx_Hp} {F : Int32 → rx_Hp → Prop} (x1 : Int32) (x2 : Int32) (x3 : Int32) (x4 : Int32) (x5 : Int32) (H : (2 < x5 → Rn wM G 4 q_M_isOnPhoto 4 [some (.ref 0), some (.int x1), some (.int x2), some (.int x3), some (.int (x4 + 1)), none, none, none] [] hp (rI F)) ∧ (¬ 2 < x5 → vp_in x1 12 ∧ (vp_in (hp.2.1 21 x1.toNatClampNeg) 6 ∧ (((f_M_isThere x4 x5 hp) = 0 → Rn wM G 4 q_M_isOnPhoto 14 [some (.ref 0), some (.int x1), some (.int x2), some (.int x3), some (.int x4), some (.int (x5 + 1)), none, none] [] hp (rI F)) ∧ (¬ (f_M_isThere x4 x5 hp) = 0 → (((((f_M_thrownTo x4 (hp.1 0 24) x2) - (hp.2.1 13 (hp.2.1 21 x1.toNatClampNeg).toNatClampNeg)) * ((f_M_thrownTo x4 (hp.1 0 24) x2) - (hp.2.1 13 (hp.2.1 21 x1.toNatClampNeg).toNatClampNeg))) + (((f_M_thrownTo x5 (hp.1 0 25) x3) - (hp.2.1 14 (hp.2.1 21 x1.toNatClampNeg).toNatClampNeg)) * ((f_M_thrownTo x5 (hp.1 0 25) x3) - (hp.2.1 14 (hp.2.1 21 x1.toNatClampNeg).toNatClampNeg)))) = (hp.2.1 22 x1.toNatClampNeg) → F 1 hp) ∧ (¬ ((((f_M_thrownTo x4 (hp.1 0 24) x2) - (hp.2.1 13 (hp.2.1 21 x1.toNatClampNeg).toNatClampNeg)) * ((f_M_thrownTo x4 (hp.1 0 24) x2) - (hp.2.1 13 (hp.2.1 21 x1.toNatClampNeg).toNatClampNeg))) + (((f_M_thrownTo x5 (hp.1 0 25) x3) - (hp.2.1 14 (hp.2.1 21 x1.toNatClampNeg).toNatClampNeg)) * ((f_M_thrownTo x5 (hp.1 0 25) x3) - (hp.2.1 14 (hp.2.1 21 x1.toNatClampNeg).toNatClampNeg)))) = (hp.2.1 22 x1.toNatClampNeg) → Rn wM G 4 q_M_isOnPhoto 14 [some (.ref 0), some (.int x1), some (.int x2), some (.int x3), some (.int x4), some (.int (x5 + 1)), none, none] [] hp (rI F))))))) : Rn wM G 4 q_M_isOnPhoto 14 [some (.ref 0), some (.int x1), some (.int x2), some (.int x3), some (.int x4), some (.int x5), none, none] [] hp (rI F) := by
  refine r_iload d_M_isOnPhoto_14 rfl ?_
  refine r_iconst d_M_isOnPhoto_16 ic_2 ?_
  refine r_icmp_gt (tgt := 107) d_M_isOnPhoto_17 (by decide) (fun hc_17 => ?_) (fun hc_17 => ?_)
  · replace H := H.1 hc_17
    refine r_iinc (v := x4 + 1) (lz := [some (.ref 0), some (.int x1), some (.int x2), some (.int x3), some (.int (x4 + 1)), some (.int x5), none, none]) d_M_isOnPhoto_107 rfl (by rw [ic_1]) (by decide) rfl rfl ?_
    refine r_goto (tgt := 4) d_M_isOnPhoto_110 (by decide) ?_
    exact rx_fgt [false, false, false, false, false, true] H
  · replace H := H.2 hc_17
    refine r_iload d_M_isOnPhoto_20 rfl ?_
    refine r_aload_n (i := 0) d_M_isOnPhoto_22 rfl rfl ?_
    refine r_getI (b := 0) (v := hp.1 0 24) d_M_isOnPhoto_23 fl_M_239 (by decide) rfl rfl rfl ?_
    refine r_iload_n (i := 2) d_M_isOnPhoto_26 rfl rfl ?_
    refine rk_SI (d' := 1) [.int x4, .int (hp.1 0 24), .int x2] [] d_M_isOnPhoto_27 ml_M_289 rfl rfl (by decide) (Nat.le_of_ble_eq_true rfl) (s_M_thrownTo x4 (hp.1 0 24) x2 ?_)
    refine r_aload_n (i := 0) d_M_isOnPhoto_30 rfl rfl ?_
    refine r_getR (b := 0) (r := 13) d_M_isOnPhoto_31 fl_M_46 (by decide) rfl rfl rfl ?_
    refine r_aload_n (i := 0) d_M_isOnPhoto_34 rfl rfl ?_
    refine r_getR (b := 0) (r := 21) d_M_isOnPhoto_35 fl_M_74 (by decide) rfl rfl rfl ?_
    refine r_iload_n (i := 1) d_M_isOnPhoto_38 rfl rfl ?_
    obtain ⟨hi_39, H⟩ := H
    refine r_iald (b := 21) (v := hp.2.1 21 x1.toNatClampNeg) d_M_isOnPhoto_39 (by decide) rfl hi_39 rfl ?_
    obtain ⟨hi_40, H⟩ := H
    refine r_iald (b := 13) (v := hp.2.1 13 (hp.2.1 21 x1.toNatClampNeg).toNatClampNeg) d_M_isOnPhoto_40 (by decide) rfl hi_40 rfl ?_
    refine r_isub d_M_isOnPhoto_41 ?_
    refine r_istore (lz := [some (.ref 0), some (.int x1), some (.int x2), some (.int x3), some (.int x4), some (.int x5), some (.int ((f_M_thrownTo x4 (hp.1 0 24) x2) - (hp.2.1 13 (hp.2.1 21 x1.toNatClampNeg).toNatClampNeg))), none]) d_M_isOnPhoto_42 (by decide) rfl rfl ?_
    refine r_iload d_M_isOnPhoto_44 rfl ?_
    refine r_aload_n (i := 0) d_M_isOnPhoto_46 rfl rfl ?_
    refine r_getI (b := 0) (v := hp.1 0 25) d_M_isOnPhoto_47 fl_M_242 (by decide) rfl rfl rfl ?_
    refine r_iload_n (i := 3) d_M_isOnPhoto_50 rfl rfl ?_
    refine rk_SI (d' := 1) [.int x5, .int (hp.1 0 25), .int x3] [] d_M_isOnPhoto_51 ml_M_289 rfl rfl (by decide) (Nat.le_of_ble_eq_true rfl) (s_M_thrownTo x5 (hp.1 0 25) x3 ?_)
    refine r_aload_n (i := 0) d_M_isOnPhoto_54 rfl rfl ?_
    refine r_getR (b := 0) (r := 14) d_M_isOnPhoto_55 fl_M_49 (by decide) rfl rfl rfl ?_
    refine r_aload_n (i := 0) d_M_isOnPhoto_58 rfl rfl ?_
    refine r_getR (b := 0) (r := 21) d_M_isOnPhoto_59 fl_M_74 (by decide) rfl rfl rfl ?_
    refine r_iload_n (i := 1) d_M_isOnPhoto_62 rfl rfl ?_
    refine r_iald (b := 21) (v := hp.2.1 21 x1.toNatClampNeg) d_M_isOnPhoto_63 (by decide) rfl hi_39 rfl ?_
    refine r_iald (b := 14) (v := hp.2.1 14 (hp.2.1 21 x1.toNatClampNeg).toNatClampNeg) d_M_isOnPhoto_64 (by decide) rfl hi_40 rfl ?_
    refine r_isub d_M_isOnPhoto_65 ?_
    refine r_istore (lz := [some (.ref 0), some (.int x1), some (.int x2), some (.int x3), some (.int x4), some (.int x5), some (.int ((f_M_thrownTo x4 (hp.1 0 24) x2) - (hp.2.1 13 (hp.2.1 21 x1.toNatClampNeg).toNatClampNeg))), some (.int ((f_M_thrownTo x5 (hp.1 0 25) x3) - (hp.2.1 14 (hp.2.1 21 x1.toNatClampNeg).toNatClampNeg)))]) d_M_isOnPhoto_66 (by decide) rfl rfl ?_
    refine r_aload_n (i := 0) d_M_isOnPhoto_68 rfl rfl ?_
    refine r_iload d_M_isOnPhoto_69 rfl ?_
    refine r_iload d_M_isOnPhoto_71 rfl ?_
    refine rk_VI (b := 0) (d' := 3) [.int x4, .int x5] [] d_M_isOnPhoto_73 ml_M_315 rfl rfl (by decide) (by decide) rfl rfl (Nat.le_of_ble_eq_true rfl) (s_M_isThere x4 x5 ?_)
    refine r_if_eq (tgt := 101) d_M_isOnPhoto_76 (by decide) (fun hc_76 => ?_) (fun hc_76 => ?_)
    · replace H := H.1 hc_76
      refine r_iinc (v := x5 + 1) (lz := [some (.ref 0), some (.int x1), some (.int x2), some (.int x3), some (.int x4), some (.int (x5 + 1)), some (.int ((f_M_thrownTo x4 (hp.1 0 24) x2) - (hp.2.1 13 (hp.2.1 21 x1.toNatClampNeg).toNatClampNeg))), some (.int ((f_M_thrownTo x5 (hp.1 0 25) x3) - (hp.2.1 14 (hp.2.1 21 x1.toNatClampNeg).toNatClampNeg)))]) d_M_isOnPhoto_101 rfl (by rw [ic_1]) (by decide) rfl rfl ?_
      refine r_goto (tgt := 14) d_M_isOnPhoto_104 (by decide) ?_
      exact rx_fgt [false, false, false, false, false, false, true, true] H
    · replace H := H.2 hc_76
      refine r_iload d_M_isOnPhoto_79 rfl ?_
      refine r_iload d_M_isOnPhoto_81 rfl ?_
      refine r_imul d_M_isOnPhoto_83 ?_
      refine r_iload d_M_isOnPhoto_84 rfl ?_
      refine r_iload d_M_isOnPhoto_86 rfl ?_
      refine r_imul d_M_isOnPhoto_88 ?_
      refine r_iadd d_M_isOnPhoto_89 ?_
      refine r_aload_n (i := 0) d_M_isOnPhoto_90 rfl rfl ?_
      refine r_getR (b := 0) (r := 22) d_M_isOnPhoto_91 fl_M_77 (by decide) rfl rfl rfl ?_
      refine r_iload_n (i := 1) d_M_isOnPhoto_94 rfl rfl ?_
      refine r_iald (b := 22) (v := hp.2.1 22 x1.toNatClampNeg) d_M_isOnPhoto_95 (by decide) rfl hi_39 rfl ?_
      refine r_icmp_ne (tgt := 101) d_M_isOnPhoto_96 (by decide) (fun hc_96 => ?_) (fun hc_96 => ?_)
      · replace H := H.2 hc_96
        refine r_iinc (v := x5 + 1) (lz := [some (.ref 0), some (.int x1), some (.int x2), some (.int x3), some (.int x4), some (.int (x5 + 1)), some (.int ((f_M_thrownTo x4 (hp.1 0 24) x2) - (hp.2.1 13 (hp.2.1 21 x1.toNatClampNeg).toNatClampNeg))), some (.int ((f_M_thrownTo x5 (hp.1 0 25) x3) - (hp.2.1 14 (hp.2.1 21 x1.toNatClampNeg).toNatClampNeg)))]) d_M_isOnPhoto_101 rfl (by rw [ic_1]) (by decide) rfl rfl ?_
        refine r_goto (tgt := 14) d_M_isOnPhoto_104 (by decide) ?_
        exact rx_fgt [false, false, false, false, false, false, true, true] H
      · replace H := H.1 hc_96
        refine r_iconst d_M_isOnPhoto_99 ic_1 ?_
        exact rZ_ret d_M_isOnPhoto_100 rfl (Or.inr rfl) H

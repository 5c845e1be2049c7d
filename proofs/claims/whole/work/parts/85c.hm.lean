theorem d_M_number_0 : decode q_M_number.2.1 0 = .ok (.aload_n 0, 1) := by decide +kernel
theorem d_M_number_1 : decode q_M_number.2.1 1 = .ok (.invokevirtual 112, 3) := by decide +kernel
theorem ml_M_112 : rx_CV "GlassRoomModel" 112 q_M_look 0 := ⟨⟨(rx_s6 21 rfl rfl), (rx_s6 23 rfl rfl), (rx_s0 24 rfl rfl)⟩, ⟨(rx_s1 13 rfl rfl), q_M_look_k, ⟨by decide, by decide, by decide +kernel⟩, by decide⟩⟩
theorem d_M_number_4 : decode q_M_number.2.1 4 = .ok (.invokestatic 115, 3) := by decide +kernel
theorem d_M_number_7 : decode q_M_number.2.1 7 = .ok (.ifCond .ne 9, 3) := by decide +kernel
theorem d_M_number_10 : decode q_M_number.2.1 10 = .ok (.aload_n 0, 1) := by decide +kernel
theorem d_M_number_11 : decode q_M_number.2.1 11 = .ok (.invokevirtual 109, 3) := by decide +kernel
theorem d_M_number_14 : decode q_M_number.2.1 14 = .ok (.iload_n 1, 1) := by decide +kernel
theorem d_M_number_15 : decode q_M_number.2.1 15 = .ok (.ireturn, 1) := by decide +kernel
theorem d_M_number_16 : decode q_M_number.2.1 16 = .ok (.aload_n 0, 1) := by decide +kernel
theorem d_M_number_17 : decode q_M_number.2.1 17 = .ok (.invokevirtual 96, 3) := by decide +kernel
theorem d_M_number_20 : decode q_M_number.2.1 20 = .ok (.bipush 48, 2) := by decide +kernel
theorem d_M_number_22 : decode q_M_number.2.1 22 = .ok (.isub, 1) := by decide +kernel
theorem d_M_number_23 : decode q_M_number.2.1 23 = .ok (.istore_n 3, 1) := by decide +kernel
theorem d_M_number_24 : decode q_M_number.2.1 24 = .ok (.aload_n 0, 1) := by decide +kernel
theorem d_M_number_25 : decode q_M_number.2.1 25 = .ok (.dup, 1) := by decide +kernel
theorem d_M_number_26 : decode q_M_number.2.1 26 = .ok (.getfield 93, 3) := by decide +kernel
theorem d_M_number_29 : decode q_M_number.2.1 29 = .ok (.iconst 1, 1) := by decide +kernel
theorem d_M_number_30 : decode q_M_number.2.1 30 = .ok (.iadd, 1) := by decide +kernel
theorem d_M_number_31 : decode q_M_number.2.1 31 = .ok (.putfield 93, 3) := by decide +kernel
theorem d_M_number_34 : decode q_M_number.2.1 34 = .ok (.aload_n 0, 1) := by decide +kernel
theorem d_M_number_35 : decode q_M_number.2.1 35 = .ok (.invokevirtual 96, 3) := by decide +kernel
theorem d_M_number_38 : decode q_M_number.2.1 38 = .ok (.invokestatic 115, 3) := by decide +kernel
theorem d_M_number_41 : decode q_M_number.2.1 41 = .ok (.ifCond .eq 26, 3) := by decide +kernel
theorem d_M_number_44 : decode q_M_number.2.1 44 = .ok (.bipush 10, 2) := by decide +kernel
theorem d_M_number_46 : decode q_M_number.2.1 46 = .ok (.iload_n 3, 1) := by decide +kernel
theorem d_M_number_47 : decode q_M_number.2.1 47 = .ok (.imul, 1) := by decide +kernel
theorem d_M_number_48 : decode q_M_number.2.1 48 = .ok (.aload_n 0, 1) := by decide +kernel
theorem d_M_number_49 : decode q_M_number.2.1 49 = .ok (.invokevirtual 96, 3) := by decide +kernel
theorem d_M_number_52 : decode q_M_number.2.1 52 = .ok (.iadd, 1) := by decide +kernel
theorem d_M_number_53 : decode q_M_number.2.1 53 = .ok (.bipush 48, 2) := by decide +kernel
theorem d_M_number_55 : decode q_M_number.2.1 55 = .ok (.isub, 1) := by decide +kernel
theorem d_M_number_56 : decode q_M_number.2.1 56 = .ok (.istore_n 3, 1) := by decide +kernel
theorem d_M_number_57 : decode q_M_number.2.1 57 = .ok (.aload_n 0, 1) := by decide +kernel
theorem d_M_number_58 : decode q_M_number.2.1 58 = .ok (.dup, 1) := by decide +kernel
theorem d_M_number_59 : decode q_M_number.2.1 59 = .ok (.getfield 93, 3) := by decide +kernel
theorem d_M_number_62 : decode q_M_number.2.1 62 = .ok (.iconst 1, 1) := by decide +kernel
theorem d_M_number_63 : decode q_M_number.2.1 63 = .ok (.iadd, 1) := by decide +kernel
theorem d_M_number_67 : decode q_M_number.2.1 67 = .ok (.aload_n 0, 1) := by decide +kernel
theorem d_M_number_68 : decode q_M_number.2.1 68 = .ok (.invokevirtual 96, 3) := by decide +kernel
theorem d_M_number_71 : decode q_M_number.2.1 71 = .ok (.invokestatic 115, 3) := by decide +kernel
theorem d_M_number_74 : decode q_M_number.2.1 74 = .ok (.ifCond .eq 10, 3) := by decide +kernel
theorem d_M_number_84 : decode q_M_number.2.1 84 = .ok (.iload_n 3, 1) := by decide +kernel
theorem d_M_number_85 : decode q_M_number.2.1 85 = .ok (.iload_n 1, 1) := by decide +kernel
theorem d_M_number_86 : decode q_M_number.2.1 86 = .ok (.iload_n 2, 1) := by decide +kernel
theorem d_M_number_87 : decode q_M_number.2.1 87 = .ok (.invokestatic 198, 3) := by decide +kernel
theorem d_M_number_90 : decode q_M_number.2.1 90 = .ok (.ifCond .ne 17, 3) := by decide +kernel
theorem d_M_number_93 : decode q_M_number.2.1 93 = .ok (.aload_n 0, 1) := by decide +kernel
theorem d_M_number_94 : decode q_M_number.2.1 94 = .ok (.dup, 1) := by decide +kernel
theorem d_M_number_95 : decode q_M_number.2.1 95 = .ok (.getfield 93, 3) := by decide +kernel
theorem d_M_number_98 : decode q_M_number.2.1 98 = .ok (.iconst 1, 1) := by decide +kernel
theorem d_M_number_99 : decode q_M_number.2.1 99 = .ok (.isub, 1) := by decide +kernel
theorem d_M_number_100 : decode q_M_number.2.1 100 = .ok (.putfield 93, 3) := by decide +kernel
theorem d_M_number_103 : decode q_M_number.2.1 103 = .ok (.aload_n 0, 1) := by decide +kernel
theorem d_M_number_104 : decode q_M_number.2.1 104 = .ok (.invokevirtual 109, 3) := by decide +kernel
theorem d_M_number_107 : decode q_M_number.2.1 107 = .ok (.iload_n 3, 1) := by decide +kernel
theorem d_M_number_108 : decode q_M_number.2.1 108 = .ok (.ireturn, 1) := by decide +kernel
theorem d_M_number_64 : decode q_M_number.2.1 64 = .ok (.putfield 93, 3) := by decide +kernel
theorem d_M_number_77 : decode q_M_number.2.1 77 = .ok (.aload_n 0, 1) := by decide +kernel
theorem d_M_number_78 : decode q_M_number.2.1 78 = .ok (.invokevirtual 109, 3) := by decide +kernel
theorem d_M_number_81 : decode q_M_number.2.1 81 = .ok (.goto 26, 3) := by decide +kernel
theorem d_M_items_0 : decode q_M_items.2.1 0 = .ok (.iconst 0, 1) := by decide +kernel
theorem d_M_items_1 : decode q_M_items.2.1 1 = .ok (.istore 5, 2) := by decide +kernel
theorem d_M_items_3 : decode q_M_items.2.1 3 = .ok (.iload 5, 2) := by decide +kernel
theorem d_M_items_5 : decode q_M_items.2.1 5 = .ok (.iload 4, 2) := by decide +kernel
theorem d_M_items_7 : decode q_M_items.2.1 7 = .ok (.if_icmp .ge 21, 3) := by decide +kernel
theorem d_M_items_10 : decode q_M_items.2.1 10 = .ok (.aload_n 2, 1) := by decide +kernel
theorem d_M_items_11 : decode q_M_items.2.1 11 = .ok (.iload_n 3, 1) := by decide +kernel
theorem d_M_items_12 : decode q_M_items.2.1 12 = .ok (.iload 5, 2) := by decide +kernel
theorem d_M_items_14 : decode q_M_items.2.1 14 = .ok (.iadd, 1) := by decide +kernel
theorem d_M_items_15 : decode q_M_items.2.1 15 = .ok (.iload_n 1, 1) := by decide +kernel
theorem d_M_items_16 : decode q_M_items.2.1 16 = .ok (.iload 5, 2) := by decide +kernel
theorem d_M_items_18 : decode q_M_items.2.1 18 = .ok (.invokestatic 202, 3) := by decide +kernel
theorem ml_M_202 : rx_CS "GlassRoomModel" 202 q_M_usual 2 := ⟨⟨(rx_s6 18 rfl rfl), (rx_s6 19 rfl rfl)⟩, ⟨(rx_s1 13 rfl rfl), q_M_usual_k, ⟨by decide, by decide, by decide +kernel⟩, by decide⟩⟩
theorem d_M_items_28 : decode q_M_items.2.1 28 = .ok (.iconst 0, 1) := by decide +kernel
theorem d_M_items_29 : decode q_M_items.2.1 29 = .ok (.istore 5, 2) := by decide +kernel
theorem d_M_items_31 : decode q_M_items.2.1 31 = .ok (.iload_n 1, 1) := by decide +kernel
theorem d_M_items_32 : decode q_M_items.2.1 32 = .ok (.aload_n 0, 1) := by decide +kernel
theorem d_M_items_33 : decode q_M_items.2.1 33 = .ok (.invokevirtual 112, 3) := by decide +kernel
theorem d_M_items_36 : decode q_M_items.2.1 36 = .ok (.invokestatic 206, 3) := by decide +kernel
theorem ml_M_206 : rx_CS "GlassRoomModel" 206 q_M_itemOf 2 := ⟨⟨(rx_s6 33 rfl rfl), (rx_s6 34 rfl rfl)⟩, ⟨(rx_s1 13 rfl rfl), q_M_itemOf_k, ⟨by decide, by decide, by decide +kernel⟩, by decide⟩⟩
theorem d_M_items_39 : decode q_M_items.2.1 39 = .ok (.istore 6, 2) := by decide +kernel
theorem d_M_items_21 : decode q_M_items.2.1 21 = .ok (.iastore, 1) := by decide +kernel
theorem d_M_items_22 : decode q_M_items.2.1 22 = .ok (.iinc 5 1, 3) := by decide +kernel
theorem d_M_items_25 : decode q_M_items.2.1 25 = .ok (.goto (-22), 3) := by decide +kernel
theorem d_M_items_41 : decode q_M_items.2.1 41 = .ok (.aload_n 0, 1) := by decide +kernel
theorem d_M_items_42 : decode q_M_items.2.1 42 = .ok (.getfield 100, 3) := by decide +kernel
theorem d_M_items_45 : decode q_M_items.2.1 45 = .ok (.iconst (-1), 1) := by decide +kernel
theorem d_M_items_46 : decode q_M_items.2.1 46 = .ok (.if_icmp .ne 96, 3) := by decide +kernel
theorem d_M_items_49 : decode q_M_items.2.1 49 = .ok (.iload 6, 2) := by decide +kernel
theorem d_M_items_51 : decode q_M_items.2.1 51 = .ok (.iconst (-1), 1) := by decide +kernel
theorem d_M_items_52 : decode q_M_items.2.1 52 = .ok (.if_icmp .eq 90, 3) := by decide +kernel
theorem d_M_items_55 : decode q_M_items.2.1 55 = .ok (.iload 5, 2) := by decide +kernel
theorem d_M_items_57 : decode q_M_items.2.1 57 = .ok (.iload 6, 2) := by decide +kernel
theorem d_M_items_59 : decode q_M_items.2.1 59 = .ok (.invokestatic 209, 3) := by decide +kernel
theorem d_M_items_62 : decode q_M_items.2.1 62 = .ok (.ifCond .ne 80, 3) := by decide +kernel
theorem d_M_items_65 : decode q_M_items.2.1 65 = .ok (.iload 5, 2) := by decide +kernel
theorem d_M_items_67 : decode q_M_items.2.1 67 = .ok (.iconst 1, 1) := by decide +kernel
theorem d_M_items_68 : decode q_M_items.2.1 68 = .ok (.iload 6, 2) := by decide +kernel
theorem d_M_items_70 : decode q_M_items.2.1 70 = .ok (.ishl, 1) := by decide +kernel
theorem d_M_items_71 : decode q_M_items.2.1 71 = .ok (.ior, 1) := by decide +kernel
theorem d_M_items_72 : decode q_M_items.2.1 72 = .ok (.istore 5, 2) := by decide +kernel
theorem d_M_items_74 : decode q_M_items.2.1 74 = .ok (.aload_n 0, 1) := by decide +kernel
theorem d_M_items_75 : decode q_M_items.2.1 75 = .ok (.dup, 1) := by decide +kernel
theorem d_M_items_76 : decode q_M_items.2.1 76 = .ok (.getfield 93, 3) := by decide +kernel
theorem d_M_items_79 : decode q_M_items.2.1 79 = .ok (.iconst 1, 1) := by decide +kernel
theorem d_M_items_80 : decode q_M_items.2.1 80 = .ok (.iadd, 1) := by decide +kernel
theorem d_M_items_142 : decode q_M_items.2.1 142 = .ok (.return_, 1) := by decide +kernel
theorem d_M_items_81 : decode q_M_items.2.1 81 = .ok (.putfield 93, 3) := by decide +kernel
theorem d_M_items_84 : decode q_M_items.2.1 84 = .ok (.aload_n 2, 1) := by decide +kernel
theorem d_M_items_85 : decode q_M_items.2.1 85 = .ok (.iload_n 3, 1) := by decide +kernel
theorem d_M_items_86 : decode q_M_items.2.1 86 = .ok (.iload 6, 2) := by decide +kernel
theorem d_M_items_88 : decode q_M_items.2.1 88 = .ok (.iadd, 1) := by decide +kernel
theorem d_M_items_89 : decode q_M_items.2.1 89 = .ok (.aload_n 0, 1) := by decide +kernel
theorem d_M_items_90 : decode q_M_items.2.1 90 = .ok (.iload_n 1, 1) := by decide +kernel
theorem d_M_items_91 : decode q_M_items.2.1 91 = .ok (.bipush 114, 2) := by decide +kernel
theorem d_M_items_93 : decode q_M_items.2.1 93 = .ok (.if_icmp .ne 13, 3) := by decide +kernel
theorem d_M_items_96 : decode q_M_items.2.1 96 = .ok (.iload 6, 2) := by decide +kernel
theorem d_M_items_98 : decode q_M_items.2.1 98 = .ok (.iconst 2, 1) := by decide +kernel
theorem d_M_items_99 : decode q_M_items.2.1 99 = .ok (.if_icmp .ge 7, 3) := by decide +kernel
theorem d_M_items_106 : decode q_M_items.2.1 106 = .ok (.iconst 0, 1) := by decide +kernel
theorem d_M_items_102 : decode q_M_items.2.1 102 = .ok (.iconst 1, 1) := by decide +kernel
theorem d_M_items_103 : decode q_M_items.2.1 103 = .ok (.goto 4, 3) := by decide +kernel
theorem d_M_items_107 : decode q_M_items.2.1 107 = .ok (.iload_n 1, 1) := by decide +kernel
theorem d_M_items_108 : decode q_M_items.2.1 108 = .ok (.iload 6, 2) := by decide +kernel
theorem d_M_items_110 : decode q_M_items.2.1 110 = .ok (.invokestatic 213, 3) := by decide +kernel
theorem ml_M_213 : rx_CS "GlassRoomModel" 213 q_M_highest 2 := ⟨⟨(rx_s6 39 rfl rfl), (rx_s6 40 rfl rfl)⟩, ⟨(rx_s1 13 rfl rfl), q_M_highest_k, ⟨by decide, by decide, by decide +kernel⟩, by decide⟩⟩
theorem d_M_items_113 : decode q_M_items.2.1 113 = .ok (.invokevirtual 216, 3) := by decide +kernel
theorem ml_M_216 : rx_CV "GlassRoomModel" 216 q_M_number 2 := ⟨⟨(rx_s6 42 rfl rfl), (rx_s6 44 rfl rfl), (rx_s0 27 rfl rfl)⟩, ⟨(rx_s1 13 rfl rfl), q_M_number_k, ⟨by decide, by decide, by decide +kernel⟩, by decide⟩⟩
theorem d_M_items_116 : decode q_M_items.2.1 116 = .ok (.iastore, 1) := by decide +kernel
theorem d_M_items_117 : decode q_M_items.2.1 117 = .ok (.aload_n 0, 1) := by decide +kernel
theorem d_M_items_118 : decode q_M_items.2.1 118 = .ok (.getfield 100, 3) := by decide +kernel
theorem d_M_items_121 : decode q_M_items.2.1 121 = .ok (.iconst (-1), 1) := by decide +kernel
theorem d_M_items_122 : decode q_M_items.2.1 122 = .ok (.if_icmp .ne 14, 3) := by decide +kernel
theorem d_M_items_125 : decode q_M_items.2.1 125 = .ok (.iload_n 1, 1) := by decide +kernel
theorem d_M_items_126 : decode q_M_items.2.1 126 = .ok (.aload_n 0, 1) := by decide +kernel
theorem d_M_items_127 : decode q_M_items.2.1 127 = .ok (.invokevirtual 112, 3) := by decide +kernel
theorem d_M_items_130 : decode q_M_items.2.1 130 = .ok (.invokestatic 206, 3) := by decide +kernel
theorem d_M_items_133 : decode q_M_items.2.1 133 = .ok (.goto 4, 3) := by decide +kernel
theorem d_M_items_137 : decode q_M_items.2.1 137 = .ok (.istore 6, 2) := by decide +kernel
theorem d_M_items_139 : decode q_M_items.2.1 139 = .ok (.goto (-98), 3) := by decide +kernel
theorem d_M_items_136 : decode q_M_items.2.1 136 = .ok (.iconst (-1), 1) := by decide +kernel
theorem d_M_readHall_0 : decode q_M_readHall.2.1 0 = .ok (.aload_n 0, 1) := by decide +kernel
theorem d_M_readHall_1 : decode q_M_readHall.2.1 1 = .ok (.iconst 0, 1) := by decide +kernel
theorem d_M_readHall_2 : decode q_M_readHall.2.1 2 = .ok (.putfield 93, 3) := by decide +kernel
theorem d_M_readHall_5 : decode q_M_readHall.2.1 5 = .ok (.aload_n 0, 1) := by decide +kernel
theorem d_M_readHall_6 : decode q_M_readHall.2.1 6 = .ok (.iconst (-1), 1) := by decide +kernel
theorem d_M_readHall_7 : decode q_M_readHall.2.1 7 = .ok (.putfield 100, 3) := by decide +kernel
theorem d_M_readHall_10 : decode q_M_readHall.2.1 10 = .ok (.aload_n 0, 1) := by decide +kernel
theorem d_M_readHall_11 : decode q_M_readHall.2.1 11 = .ok (.iconst 0, 1) := by decide +kernel
theorem d_M_readHall_12 : decode q_M_readHall.2.1 12 = .ok (.putfield 219, 3) := by decide +kernel
theorem fp_M_219 : rx_FP "GlassRoomModel" 219 12 19 (.int) := ⟨(RX12, TX12, 45), tyX12, rfl, by decide, (rx_s5 118 rfl rfl), rx_T12, tyX12_ok, nmX12, rfl, rfl⟩
theorem d_M_readHall_15 : decode q_M_readHall.2.1 15 = .ok (.iconst 0, 1) := by decide +kernel
theorem d_M_readHall_16 : decode q_M_readHall.2.1 16 = .ok (.istore_n 1, 1) := by decide +kernel
theorem d_M_readHall_17 : decode q_M_readHall.2.1 17 = .ok (.iload_n 1, 1) := by decide +kernel
theorem d_M_readHall_18 : decode q_M_readHall.2.1 18 = .ok (.iconst 4, 1) := by decide +kernel
theorem d_M_readHall_19 : decode q_M_readHall.2.1 19 = .ok (.if_icmp .ge 21, 3) := by decide +kernel
theorem d_M_readHall_22 : decode q_M_readHall.2.1 22 = .ok (.aload_n 0, 1) := by decide +kernel
theorem d_M_readHall_23 : decode q_M_readHall.2.1 23 = .ok (.getfield 40, 3) := by decide +kernel
theorem d_M_readHall_26 : decode q_M_readHall.2.1 26 = .ok (.iload_n 1, 1) := by decide +kernel
theorem d_M_readHall_27 : decode q_M_readHall.2.1 27 = .ok (.bipush 114, 2) := by decide +kernel
theorem d_M_readHall_29 : decode q_M_readHall.2.1 29 = .ok (.iload_n 1, 1) := by decide +kernel
theorem d_M_readHall_30 : decode q_M_readHall.2.1 30 = .ok (.invokestatic 202, 3) := by decide +kernel
theorem d_M_readHall_40 : decode q_M_readHall.2.1 40 = .ok (.iconst 0, 1) := by decide +kernel
theorem d_M_readHall_41 : decode q_M_readHall.2.1 41 = .ok (.istore_n 1, 1) := by decide +kernel
theorem d_M_readHall_42 : decode q_M_readHall.2.1 42 = .ok (.iconst 1, 1) := by decide +kernel
theorem d_M_readHall_43 : decode q_M_readHall.2.1 43 = .ok (.istore_n 2, 1) := by decide +kernel
theorem d_M_readHall_33 : decode q_M_readHall.2.1 33 = .ok (.iastore, 1) := by decide +kernel
theorem d_M_readHall_34 : decode q_M_readHall.2.1 34 = .ok (.iinc 1 1, 3) := by decide +kernel
theorem d_M_readHall_37 : decode q_M_readHall.2.1 37 = .ok (.goto (-20), 3) := by decide +kernel
theorem d_M_readHall_44 : decode q_M_readHall.2.1 44 = .ok (.iload_n 2, 1) := by decide +kernel
theorem d_M_readHall_45 : decode q_M_readHall.2.1 45 = .ok (.ifCond .eq 154, 3) := by decide +kernel
theorem d_M_readHall_48 : decode q_M_readHall.2.1 48 = .ok (.aload_n 0, 1) := by decide +kernel
theorem d_M_readHall_49 : decode q_M_readHall.2.1 49 = .ok (.getfield 100, 3) := by decide +kernel
theorem d_M_readHall_52 : decode q_M_readHall.2.1 52 = .ok (.iconst (-1), 1) := by decide +kernel
theorem d_M_readHall_53 : decode q_M_readHall.2.1 53 = .ok (.if_icmp .ne 146, 3) := by decide +kernel
theorem d_M_readHall_56 : decode q_M_readHall.2.1 56 = .ok (.aload_n 0, 1) := by decide +kernel
theorem d_M_readHall_199 : decode q_M_readHall.2.1 199 = .ok (.aload_n 0, 1) := by decide +kernel
theorem d_M_readHall_200 : decode q_M_readHall.2.1 200 = .ok (.getfield 100, 3) := by decide +kernel
theorem d_M_readHall_203 : decode q_M_readHall.2.1 203 = .ok (.iconst (-1), 1) := by decide +kernel
theorem d_M_readHall_204 : decode q_M_readHall.2.1 204 = .ok (.if_icmp .ne 22, 3) := by decide +kernel
theorem d_M_readHall_207 : decode q_M_readHall.2.1 207 = .ok (.aload_n 0, 1) := by decide +kernel
theorem d_M_readHall_208 : decode q_M_readHall.2.1 208 = .ok (.invokevirtual 112, 3) := by decide +kernel
theorem d_M_readHall_211 : decode q_M_readHall.2.1 211 = .ok (.iconst (-1), 1) := by decide +kernel
theorem d_M_readHall_212 : decode q_M_readHall.2.1 212 = .ok (.if_icmp .ne 10, 3) := by decide +kernel
theorem d_M_readHall_215 : decode q_M_readHall.2.1 215 = .ok (.aload_n 0, 1) := by decide +kernel
theorem d_M_readHall_216 : decode q_M_readHall.2.1 216 = .ok (.invokevirtual 226, 3) := by decide +kernel
theorem ml_M_226 : rx_CV "GlassRoomModel" 226 q_M_areInside 0 := ⟨⟨(rx_s6 56 rfl rfl), (rx_s6 58 rfl rfl), (rx_s0 29 rfl rfl)⟩, ⟨(rx_s1 13 rfl rfl), q_M_areInside_k, ⟨by decide, by decide, by decide +kernel⟩, by decide⟩⟩
theorem d_M_readHall_219 : decode q_M_readHall.2.1 219 = .ok (.ifCond .ne 7, 3) := by decide +kernel
theorem d_M_readHall_222 : decode q_M_readHall.2.1 222 = .ok (.aload_n 0, 1) := by decide +kernel
theorem d_M_readHall_223 : decode q_M_readHall.2.1 223 = .ok (.invokevirtual 109, 3) := by decide +kernel
theorem d_M_readHall_226 : decode q_M_readHall.2.1 226 = .ok (.aload_n 0, 1) := by decide +kernel
theorem d_M_readHall_227 : decode q_M_readHall.2.1 227 = .ok (.getfield 100, 3) := by decide +kernel
theorem d_M_readHall_230 : decode q_M_readHall.2.1 230 = .ok (.ireturn, 1) := by decide +kernel
theorem d_M_readHall_57 : decode q_M_readHall.2.1 57 = .ok (.invokevirtual 112, 3) := by decide +kernel
theorem d_M_readHall_60 : decode q_M_readHall.2.1 60 = .ok (.istore_n 3, 1) := by decide +kernel
theorem d_M_readHall_61 : decode q_M_readHall.2.1 61 = .ok (.iload_n 3, 1) := by decide +kernel
theorem d_M_readHall_62 : decode q_M_readHall.2.1 62 = .ok (.bipush 114, 2) := by decide +kernel
theorem d_M_readHall_64 : decode q_M_readHall.2.1 64 = .ok (.if_icmp .ne 33, 3) := by decide +kernel
theorem d_M_readHall_67 : decode q_M_readHall.2.1 67 = .ok (.iload_n 1, 1) := by decide +kernel
theorem d_M_readHall_68 : decode q_M_readHall.2.1 68 = .ok (.ifCond .ne 29, 3) := by decide +kernel
theorem d_M_readHall_71 : decode q_M_readHall.2.1 71 = .ok (.iconst 1, 1) := by decide +kernel
theorem d_M_readHall_72 : decode q_M_readHall.2.1 72 = .ok (.istore_n 1, 1) := by decide +kernel
theorem d_M_readHall_73 : decode q_M_readHall.2.1 73 = .ok (.aload_n 0, 1) := by decide +kernel
theorem d_M_readHall_74 : decode q_M_readHall.2.1 74 = .ok (.dup, 1) := by decide +kernel
theorem d_M_readHall_75 : decode q_M_readHall.2.1 75 = .ok (.getfield 93, 3) := by decide +kernel
theorem d_M_readHall_78 : decode q_M_readHall.2.1 78 = .ok (.iconst 1, 1) := by decide +kernel
theorem d_M_readHall_79 : decode q_M_readHall.2.1 79 = .ok (.iadd, 1) := by decide +kernel
theorem d_M_readHall_80 : decode q_M_readHall.2.1 80 = .ok (.putfield 93, 3) := by decide +kernel
theorem d_M_readHall_83 : decode q_M_readHall.2.1 83 = .ok (.aload_n 0, 1) := by decide +kernel
theorem d_M_readHall_84 : decode q_M_readHall.2.1 84 = .ok (.iload_n 3, 1) := by decide +kernel
theorem d_M_readHall_85 : decode q_M_readHall.2.1 85 = .ok (.aload_n 0, 1) := by decide +kernel
theorem d_M_readHall_86 : decode q_M_readHall.2.1 86 = .ok (.getfield 40, 3) := by decide +kernel
theorem d_M_readHall_89 : decode q_M_readHall.2.1 89 = .ok (.iconst 0, 1) := by decide +kernel
theorem d_M_readHall_90 : decode q_M_readHall.2.1 90 = .ok (.iconst 4, 1) := by decide +kernel
theorem d_M_readHall_91 : decode q_M_readHall.2.1 91 = .ok (.invokevirtual 222, 3) := by decide +kernel
theorem ml_M_222 : rx_CV "GlassRoomModel" 222 q_M_items 4 := ⟨⟨(rx_s6 29 rfl rfl), (rx_s6 31 rfl rfl), (rx_s0 26 rfl rfl)⟩, ⟨(rx_s1 13 rfl rfl), q_M_items_k, ⟨by decide, by decide, by decide +kernel⟩, by decide⟩⟩
theorem d_M_readHall_94 : decode q_M_readHall.2.1 94 = .ok (.goto 61, 3) := by decide +kernel
theorem d_M_readHall_155 : decode q_M_readHall.2.1 155 = .ok (.aload_n 0, 1) := by decide +kernel
theorem d_M_readHall_156 : decode q_M_readHall.2.1 156 = .ok (.getfield 100, 3) := by decide +kernel
theorem d_M_readHall_159 : decode q_M_readHall.2.1 159 = .ok (.iconst (-1), 1) := by decide +kernel
theorem d_M_readHall_160 : decode q_M_readHall.2.1 160 = .ok (.if_icmp .ne 16, 3) := by decide +kernel
theorem d_M_readHall_163 : decode q_M_readHall.2.1 163 = .ok (.aload_n 0, 1) := by decide +kernel
theorem d_M_readHall_164 : decode q_M_readHall.2.1 164 = .ok (.invokevirtual 112, 3) := by decide +kernel
theorem d_M_readHall_167 : decode q_M_readHall.2.1 167 = .ok (.bipush 59, 2) := by decide +kernel
theorem d_M_readHall_169 : decode q_M_readHall.2.1 169 = .ok (.if_icmp .ne 7, 3) := by decide +kernel
theorem d_M_readHall_172 : decode q_M_readHall.2.1 172 = .ok (.iconst 1, 1) := by decide +kernel
theorem d_M_readHall_173 : decode q_M_readHall.2.1 173 = .ok (.goto 4, 3) := by decide +kernel
theorem d_M_readHall_176 : decode q_M_readHall.2.1 176 = .ok (.iconst 0, 1) := by decide +kernel
theorem d_M_readHall_177 : decode q_M_readHall.2.1 177 = .ok (.istore_n 2, 1) := by decide +kernel
theorem d_M_readHall_178 : decode q_M_readHall.2.1 178 = .ok (.aload_n 0, 1) := by decide +kernel
theorem d_M_readHall_179 : decode q_M_readHall.2.1 179 = .ok (.dup, 1) := by decide +kernel
theorem d_M_readHall_180 : decode q_M_readHall.2.1 180 = .ok (.getfield 93, 3) := by decide +kernel
theorem d_M_readHall_183 : decode q_M_readHall.2.1 183 = .ok (.iload_n 2, 1) := by decide +kernel
theorem d_M_readHall_184 : decode q_M_readHall.2.1 184 = .ok (.ifCond .eq 7, 3) := by decide +kernel
theorem d_M_readHall_191 : decode q_M_readHall.2.1 191 = .ok (.iconst 0, 1) := by decide +kernel
theorem d_M_readHall_187 : decode q_M_readHall.2.1 187 = .ok (.iconst 1, 1) := by decide +kernel
theorem d_M_readHall_188 : decode q_M_readHall.2.1 188 = .ok (.goto 4, 3) := by decide +kernel
theorem d_M_readHall_192 : decode q_M_readHall.2.1 192 = .ok (.iadd, 1) := by decide +kernel
theorem d_M_readHall_193 : decode q_M_readHall.2.1 193 = .ok (.putfield 93, 3) := by decide +kernel
theorem d_M_readHall_196 : decode q_M_readHall.2.1 196 = .ok (.goto (-152), 3) := by decide +kernel
theorem d_M_readHall_97 : decode q_M_readHall.2.1 97 = .ok (.iload_n 3, 1) := by decide +kernel
theorem d_M_readHall_98 : decode q_M_readHall.2.1 98 = .ok (.bipush 98, 2) := by decide +kernel
theorem d_M_readHall_100 : decode q_M_readHall.2.1 100 = .ok (.if_icmp .ne 51, 3) := by decide +kernel
theorem d_M_readHall_103 : decode q_M_readHall.2.1 103 = .ok (.aload_n 0, 1) := by decide +kernel
theorem d_M_readHall_104 : decode q_M_readHall.2.1 104 = .ok (.getfield 219, 3) := by decide +kernel
theorem d_M_readHall_107 : decode q_M_readHall.2.1 107 = .ok (.bipush 6, 2) := by decide +kernel
theorem d_M_readHall_109 : decode q_M_readHall.2.1 109 = .ok (.if_icmp .ge 42, 3) := by decide +kernel
theorem d_M_readHall_151 : decode q_M_readHall.2.1 151 = .ok (.aload_n 0, 1) := by decide +kernel
theorem d_M_readHall_152 : decode q_M_readHall.2.1 152 = .ok (.invokevirtual 109, 3) := by decide +kernel
theorem d_M_readHall_112 : decode q_M_readHall.2.1 112 = .ok (.aload_n 0, 1) := by decide +kernel
theorem d_M_readHall_113 : decode q_M_readHall.2.1 113 = .ok (.dup, 1) := by decide +kernel
theorem d_M_readHall_114 : decode q_M_readHall.2.1 114 = .ok (.getfield 93, 3) := by decide +kernel
theorem d_M_readHall_117 : decode q_M_readHall.2.1 117 = .ok (.iconst 1, 1) := by decide +kernel
theorem d_M_readHall_118 : decode q_M_readHall.2.1 118 = .ok (.iadd, 1) := by decide +kernel
theorem d_M_readHall_119 : decode q_M_readHall.2.1 119 = .ok (.putfield 93, 3) := by decide +kernel
theorem d_M_readHall_122 : decode q_M_readHall.2.1 122 = .ok (.aload_n 0, 1) := by decide +kernel
theorem d_M_readHall_123 : decode q_M_readHall.2.1 123 = .ok (.iload_n 3, 1) := by decide +kernel
theorem d_M_readHall_124 : decode q_M_readHall.2.1 124 = .ok (.aload_n 0, 1) := by decide +kernel
theorem d_M_readHall_125 : decode q_M_readHall.2.1 125 = .ok (.getfield 43, 3) := by decide +kernel
theorem d_M_readHall_128 : decode q_M_readHall.2.1 128 = .ok (.iconst 3, 1) := by decide +kernel
theorem d_M_readHall_129 : decode q_M_readHall.2.1 129 = .ok (.aload_n 0, 1) := by decide +kernel
theorem d_M_readHall_130 : decode q_M_readHall.2.1 130 = .ok (.getfield 219, 3) := by decide +kernel
theorem d_M_readHall_133 : decode q_M_readHall.2.1 133 = .ok (.imul, 1) := by decide +kernel
theorem d_M_readHall_134 : decode q_M_readHall.2.1 134 = .ok (.iconst 3, 1) := by decide +kernel
theorem d_M_readHall_135 : decode q_M_readHall.2.1 135 = .ok (.invokevirtual 222, 3) := by decide +kernel
theorem d_M_readHall_138 : decode q_M_readHall.2.1 138 = .ok (.aload_n 0, 1) := by decide +kernel
theorem d_M_readHall_139 : decode q_M_readHall.2.1 139 = .ok (.dup, 1) := by decide +kernel
theorem d_M_readHall_140 : decode q_M_readHall.2.1 140 = .ok (.getfield 219, 3) := by decide +kernel
theorem d_M_readHall_143 : decode q_M_readHall.2.1 143 = .ok (.iconst 1, 1) := by decide +kernel
theorem d_M_readHall_144 : decode q_M_readHall.2.1 144 = .ok (.iadd, 1) := by decide +kernel
theorem d_M_readHall_145 : decode q_M_readHall.2.1 145 = .ok (.putfield 219, 3) := by decide +kernel
theorem d_M_readHall_148 : decode q_M_readHall.2.1 148 = .ok (.goto 7, 3) := by decide +kernel
set_option maxHeartbeats 4000000 in
set_option maxRecDepth 20000 in
theorem w_M_number {G : rx_Gh} {hp : rx_Hp} {F : Int32 → rx_Hp → Prop} (a1 : Int32) (a2 : Int32) (H : Ev wM G 2 q_M_look [.ref 0] hp (rI fun r2 h1 => ((f_M_isDigit r2) = 0 → F a1 (g_M_bad h1)) ∧ (¬ (f_M_isDigit r2) = 0 → p_M_here h1 ∧ (p_M_here (rx_pf h1 0 3 ((h1.1 0 3) + 1)) ∧ (((f_M_isDigit (f_M_here (rx_pf h1 0 3 ((h1.1 0 3) + 1)))) = 0 → ((f_M_in ((f_M_here h1) - 48) a1 a2) = 0 → F ((f_M_here h1) - 48) (g_M_bad (rx_pf (rx_pf h1 0 3 ((h1.1 0 3) + 1)) 0 3 (((h1.1 0 3) + 1) - 1)))) ∧ (¬ (f_M_in ((f_M_here h1) - 48) a1 a2) = 0 → F ((f_M_here h1) - 48) (rx_pf h1 0 3 ((h1.1 0 3) + 1)))) ∧ (¬ (f_M_isDigit (f_M_here (rx_pf h1 0 3 ((h1.1 0 3) + 1)))) = 0 → p_M_here (rx_pf (rx_pf h1 0 3 ((h1.1 0 3) + 1)) 0 3 (((h1.1 0 3) + 1) + 1)) ∧ (((f_M_isDigit (f_M_here (rx_pf (rx_pf h1 0 3 ((h1.1 0 3) + 1)) 0 3 (((h1.1 0 3) + 1) + 1)))) = 0 → ((f_M_in (((10 * ((f_M_here h1) - 48)) + (f_M_here (rx_pf h1 0 3 ((h1.1 0 3) + 1)))) - 48) a1 a2) = 0 → F (((10 * ((f_M_here h1) - 48)) + (f_M_here (rx_pf h1 0 3 ((h1.1 0 3) + 1)))) - 48) (g_M_bad (rx_pf (rx_pf (rx_pf h1 0 3 ((h1.1 0 3) + 1)) 0 3 (((h1.1 0 3) + 1) + 1)) 0 3 ((((h1.1 0 3) + 1) + 1) - 1)))) ∧ (¬ (f_M_in (((10 * ((f_M_here h1) - 48)) + (f_M_here (rx_pf h1 0 3 ((h1.1 0 3) + 1)))) - 48) a1 a2) = 0 → F (((10 * ((f_M_here h1) - 48)) + (f_M_here (rx_pf h1 0 3 ((h1.1 0 3) + 1)))) - 48) (rx_pf (rx_pf h1 0 3 ((h1.1 0 3) + 1)) 0 3 (((h1.1 0 3) + 1) + 1)))) ∧ (¬ (f_M_isDigit (f_M_here (rx_pf (rx_pf h1 0 3 ((h1.1 0 3) + 1)) 0 3 (((h1.1 0 3) + 1) + 1)))) = 0 → F (((10 * ((f_M_here h1) - 48)) + (f_M_here (rx_pf h1 0 3 ((h1.1 0 3) + 1)))) - 48) (g_M_bad (rx_pf (rx_pf h1 0 3 ((h1.1 0 3) + 1)) 0 3 (((h1.1 0 3) + 1) + 1))))))))))) : Ev wM G 3 q_M_number [.ref 0, .int a1, .int a2] hp (rI F) := by
  refine ev_of rfl (Nat.le_of_ble_eq_true rfl) rfl ?_
  show Rn wM G 3 q_M_number 0 [some (.ref 0), some (.int a1), some (.int a2), none] [] hp (rI F)
  refine r_aload_n (i := 0) d_M_number_0 rfl rfl ?_
  refine rc_VI (b := 0) (d' := 2) [] [] d_M_number_1 ml_M_112 rfl rfl (by decide) (by decide) rfl rfl (Nat.le_of_ble_eq_true rfl) H ?_
  intro r2 h1 H
  refine rk_SI (d' := 1) [.int r2] [] d_M_number_4 ml_M_115 rfl rfl (by decide) (Nat.le_of_ble_eq_true rfl) (s_M_isDigit r2 ?_)
  refine r_if_ne (tgt := 16) d_M_number_7 (by decide) (fun hc_7 => ?_) (fun hc_7 => ?_)
  · replace H := H.2 hc_7
    refine r_aload_n (i := 0) d_M_number_16 rfl rfl ?_
    obtain ⟨hp_17_0, H⟩ := H
    refine rk_VI (b := 0) (d' := 1) [] [] d_M_number_17 ml_M_96 rfl rfl (by decide) (by decide) rfl rfl (Nat.le_of_ble_eq_true rfl) (s_M_here hp_17_0 ?_)
    refine r_bipush d_M_number_20 bp_48 ?_
    refine r_isub d_M_number_22 ?_
    refine r_istore_n (i := 3) (lz := [some (.ref 0), some (.int a1), some (.int a2), some (.int ((f_M_here h1) - 48))]) d_M_number_23 rfl (by decide) rfl rfl ?_
    refine r_aload_n (i := 0) d_M_number_24 rfl rfl ?_
    refine r_dupr d_M_number_25 ?_
    refine r_getI (b := 0) (v := h1.1 0 3) d_M_number_26 fl_M_93 (by decide) rfl rfl rfl ?_
    refine r_iconst d_M_number_29 ic_1 ?_
    refine r_iadd d_M_number_30 ?_
    refine r_putI (b := 0) d_M_number_31 fp_M_93 ⟨rfl, rfl⟩ (by decide) rfl rfl ?_
    refine r_aload_n (i := 0) d_M_number_34 rfl rfl ?_
    obtain ⟨hp_35_0, H⟩ := H
    refine rk_VI (b := 0) (d' := 1) [] [] d_M_number_35 ml_M_96 rfl rfl (by decide) (by decide) rfl rfl (Nat.le_of_ble_eq_true rfl) (s_M_here hp_35_0 ?_)
    refine rk_SI (d' := 1) [.int (f_M_here (rx_pf h1 0 3 ((h1.1 0 3) + 1)))] [] d_M_number_38 ml_M_115 rfl rfl (by decide) (Nat.le_of_ble_eq_true rfl) (s_M_isDigit (f_M_here (rx_pf h1 0 3 ((h1.1 0 3) + 1))) ?_)
    refine r_if_eq (tgt := 67) d_M_number_41 (by decide) (fun hc_41 => ?_) (fun hc_41 => ?_)
    · replace H := H.1 hc_41
      refine r_aload_n (i := 0) d_M_number_67 rfl rfl ?_
      refine rk_VI (b := 0) (d' := 1) [] [] d_M_number_68 ml_M_96 rfl rfl (by decide) (by decide) rfl rfl (Nat.le_of_ble_eq_true rfl) (s_M_here hp_35_0 ?_)
      refine rk_SI (d' := 1) [.int (f_M_here (rx_pf h1 0 3 ((h1.1 0 3) + 1)))] [] d_M_number_71 ml_M_115 rfl rfl (by decide) (Nat.le_of_ble_eq_true rfl) (s_M_isDigit (f_M_here (rx_pf h1 0 3 ((h1.1 0 3) + 1))) ?_)
      refine r_if_eq (tgt := 84) d_M_number_74 (by decide) (fun _ => ?_) (fun h => absurd hc_41 h)
      refine r_iload_n (i := 3) d_M_number_84 rfl rfl ?_
      refine r_iload_n (i := 1) d_M_number_85 rfl rfl ?_
      refine r_iload_n (i := 2) d_M_number_86 rfl rfl ?_
      refine rk_SI (d' := 1) [.int ((f_M_here h1) - 48), .int a1, .int a2] [] d_M_number_87 ml_M_198 rfl rfl (by decide) (Nat.le_of_ble_eq_true rfl) (s_M_in ((f_M_here h1) - 48) a1 a2 ?_)
      refine r_if_ne (tgt := 107) d_M_number_90 (by decide) (fun hc_90 => ?_) (fun hc_90 => ?_)
      · replace H := H.2 hc_90
        refine r_iload_n (i := 3) d_M_number_107 rfl rfl ?_
        exact rI_ret d_M_number_108 rfl H
      · replace H := H.1 hc_90
        refine r_aload_n (i := 0) d_M_number_93 rfl rfl ?_
        refine r_dupr d_M_number_94 ?_
        refine r_getI (b := 0) (v := ((h1.1 0 3) + 1)) d_M_number_95 fl_M_93 (by decide) rfl rfl rfl ?_
        refine r_iconst d_M_number_98 ic_1 ?_
        refine r_isub d_M_number_99 ?_
        refine r_putI (b := 0) d_M_number_100 fp_M_93 ⟨rfl, rfl⟩ (by decide) rfl rfl ?_
        refine r_aload_n (i := 0) d_M_number_103 rfl rfl ?_
        refine rk_VV (b := 0) (d' := 1) [] [] d_M_number_104 ml_M_109 rfl rfl (by decide) (by decide) rfl rfl (Nat.le_of_ble_eq_true rfl) (s_M_bad  ?_)
        refine r_iload_n (i := 3) d_M_number_107 rfl rfl ?_
        exact rI_ret d_M_number_108 rfl H
    · replace H := H.2 hc_41
      refine r_bipush d_M_number_44 bp_10 ?_
      refine r_iload_n (i := 3) d_M_number_46 rfl rfl ?_
      refine r_imul d_M_number_47 ?_
      refine r_aload_n (i := 0) d_M_number_48 rfl rfl ?_
      refine rk_VI (b := 0) (d' := 1) [] [.int (10 * ((f_M_here h1) - 48))] d_M_number_49 ml_M_96 rfl rfl (by decide) (by decide) rfl rfl (Nat.le_of_ble_eq_true rfl) (s_M_here hp_35_0 ?_)
      refine r_iadd d_M_number_52 ?_
      refine r_bipush d_M_number_53 bp_48 ?_
      refine r_isub d_M_number_55 ?_
      refine r_istore_n (i := 3) (lz := [some (.ref 0), some (.int a1), some (.int a2), some (.int (((10 * ((f_M_here h1) - 48)) + (f_M_here (rx_pf h1 0 3 ((h1.1 0 3) + 1)))) - 48))]) d_M_number_56 rfl (by decide) rfl rfl ?_
      refine r_aload_n (i := 0) d_M_number_57 rfl rfl ?_
      refine r_dupr d_M_number_58 ?_
      refine r_getI (b := 0) (v := ((h1.1 0 3) + 1)) d_M_number_59 fl_M_93 (by decide) rfl rfl rfl ?_
      refine r_iconst d_M_number_62 ic_1 ?_
      refine r_iadd d_M_number_63 ?_
      refine r_putI (b := 0) d_M_number_64 fp_M_93 ⟨rfl, rfl⟩ (by decide) rfl rfl ?_
      refine r_aload_n (i := 0) d_M_number_67 rfl rfl ?_
      obtain ⟨hp_68_0, H⟩ := H
      refine rk_VI (b := 0) (d' := 1) [] [] d_M_number_68 ml_M_96 rfl rfl (by decide) (by decide) rfl rfl (Nat.le_of_ble_eq_true rfl) (s_M_here hp_68_0 ?_)
      refine rk_SI (d' := 1) [.int (f_M_here (rx_pf (rx_pf h1 0 3 ((h1.1 0 3) + 1)) 0 3 (((h1.1 0 3) + 1) + 1)))] [] d_M_number_71 ml_M_115 rfl rfl (by decide) (Nat.le_of_ble_eq_true rfl) (s_M_isDigit (f_M_here (rx_pf (rx_pf h1 0 3 ((h1.1 0 3) + 1)) 0 3 (((h1.1 0 3) + 1) + 1))) ?_)
      refine r_if_eq (tgt := 84) d_M_number_74 (by decide) (fun hc_74 => ?_) (fun hc_74 => ?_)
      · replace H := H.1 hc_74
        refine r_iload_n (i := 3) d_M_number_84 rfl rfl ?_
        refine r_iload_n (i := 1) d_M_number_85 rfl rfl ?_
        refine r_iload_n (i := 2) d_M_number_86 rfl rfl ?_
        refine rk_SI (d' := 1) [.int (((10 * ((f_M_here h1) - 48)) + (f_M_here (rx_pf h1 0 3 ((h1.1 0 3) + 1)))) - 48), .int a1, .int a2] [] d_M_number_87 ml_M_198 rfl rfl (by decide) (Nat.le_of_ble_eq_true rfl) (s_M_in (((10 * ((f_M_here h1) - 48)) + (f_M_here (rx_pf h1 0 3 ((h1.1 0 3) + 1)))) - 48) a1 a2 ?_)
        refine r_if_ne (tgt := 107) d_M_number_90 (by decide) (fun hc_90 => ?_) (fun hc_90 => ?_)
        · replace H := H.2 hc_90
          refine r_iload_n (i := 3) d_M_number_107 rfl rfl ?_
          exact rI_ret d_M_number_108 rfl H
        · replace H := H.1 hc_90
          refine r_aload_n (i := 0) d_M_number_93 rfl rfl ?_
          refine r_dupr d_M_number_94 ?_
          refine r_getI (b := 0) (v := (((h1.1 0 3) + 1) + 1)) d_M_number_95 fl_M_93 (by decide) rfl rfl rfl ?_
          refine r_iconst d_M_number_98 ic_1 ?_
          refine r_isub d_M_number_99 ?_
          refine r_putI (b := 0) d_M_number_100 fp_M_93 ⟨rfl, rfl⟩ (by decide) rfl rfl ?_
          refine r_aload_n (i := 0) d_M_number_103 rfl rfl ?_
          refine rk_VV (b := 0) (d' := 1) [] [] d_M_number_104 ml_M_109 rfl rfl (by decide) (by decide) rfl rfl (Nat.le_of_ble_eq_true rfl) (s_M_bad  ?_)
          refine r_iload_n (i := 3) d_M_number_107 rfl rfl ?_
          exact rI_ret d_M_number_108 rfl H
      · replace H := H.2 hc_74
        refine r_aload_n (i := 0) d_M_number_77 rfl rfl ?_
        refine rk_VV (b := 0) (d' := 1) [] [] d_M_number_78 ml_M_109 rfl rfl (by decide) (by decide) rfl rfl (Nat.le_of_ble_eq_true rfl) (s_M_bad  ?_)
        refine r_goto (tgt := 107) d_M_number_81 (by decide) ?_
        refine r_iload_n (i := 3) d_M_number_107 rfl rfl ?_
        exact rI_ret d_M_number_108 rfl H
  · replace H := H.1 hc_7
    refine r_aload_n (i := 0) d_M_number_10 rfl rfl ?_
    refine rk_VV (b := 0) (d' := 1) [] [] d_M_number_11 ml_M_109 rfl rfl (by decide) (by decide) rfl rfl (Nat.le_of_ble_eq_true rfl) (s_M_bad  ?_)
    refine r_iload_n (i := 1) d_M_number_14 rfl rfl ?_
    exact rI_ret d_M_number_15 rfl H
set_option maxHeartbeats 4000000 in
set_option maxRecDepth 20000 in
theorem w_M_items_11 {G : rx_Gh} {hp : rx_Hp} {F : rx_Hp → Prop} (a1 : Int32) (a3 : Int32) (a4 : Int32) (H : Rn wM G 4 q_M_items 3 [some (.ref 0), some (.int a1), some (.ref 11), some (.int a3), some (.int a4), some (.int 0), none] [] hp (rV F)) : Ev wM G 4 q_M_items [.ref 0, .int a1, .ref 11, .int a3, .int a4] hp (rV F) := by
  refine ev_of rfl (Nat.le_of_ble_eq_true rfl) rfl ?_
  show Rn wM G 4 q_M_items 0 [some (.ref 0), some (.int a1), some (.ref 11), some (.int a3), some (.int a4), none, none] [] hp (rV F)
  refine r_iconst d_M_items_0 ic_0 ?_
  refine r_istore (lz := [some (.ref 0), some (.int a1), some (.ref 11), some (.int a3), some (.int a4), some (.int 0), none]) d_M_items_1 (by decide) rfl rfl ?_
  exact H
set_option maxHeartbeats 4000000 in
set_option maxRecDepth 20000 in
theorem w_M_items_11_3 {G : rx_Gh} {hp : rx_Hp} {F : rx_Hp → Prop} (x1 : Int32) (x3 : Int32) (x4 : Int32) (x5 : Int32) (H : (x4 ≤ x5 → Ev wM G 2 q_M_look [.ref 0] hp (rI fun r2 h1 => Rn wM G 4 q_M_items 41 [some (.ref 0), some (.int x1), some (.ref 11), some (.int x3), none, some (.int 0), some (.int (f_M_itemOf x1 r2))] [] h1 (rV F))) ∧ (¬ x4 ≤ x5 → vp_in (x3 + x5) 4 ∧ (Rn wM G 4 q_M_items 3 [some (.ref 0), some (.int x1), some (.ref 11), some (.int x3), some (.int x4), some (.int (x5 + 1)), none] [] (rx_pa hp 11 ((x3 + x5).toNatClampNeg) (f_M_usual x1 x5)) (rV F)))) : Rn wM G 4 q_M_items 3 [some (.ref 0), some (.int x1), some (.ref 11), some (.int x3), some (.int x4), some (.int x5), none] [] hp (rV F) := by
  refine r_iload d_M_items_3 rfl ?_
  refine r_iload d_M_items_5 rfl ?_
  refine r_icmp_ge (tgt := 28) d_M_items_7 (by decide) (fun hc_7 => ?_) (fun hc_7 => ?_)
  · replace H := H.1 hc_7
    refine r_iconst d_M_items_28 ic_0 ?_
    refine r_istore (lz := [some (.ref 0), some (.int x1), some (.ref 11), some (.int x3), some (.int x4), some (.int 0), none]) d_M_items_29 (by decide) rfl rfl ?_
    refine r_iload_n (i := 1) d_M_items_31 rfl rfl ?_
    refine r_aload_n (i := 0) d_M_items_32 rfl rfl ?_
    refine rc_VI (b := 0) (d' := 2) [] [.int x1] d_M_items_33 ml_M_112 rfl rfl (by decide) (by decide) rfl rfl (Nat.le_of_ble_eq_true rfl) H ?_
    intro r2 h1 H
    refine rk_SI (d' := 1) [.int x1, .int r2] [] d_M_items_36 ml_M_206 rfl rfl (by decide) (Nat.le_of_ble_eq_true rfl) (s_M_itemOf x1 r2 ?_)
    refine r_istore (lz := [some (.ref 0), some (.int x1), some (.ref 11), some (.int x3), some (.int x4), some (.int 0), some (.int (f_M_itemOf x1 r2))]) d_M_items_39 (by decide) rfl rfl ?_
    exact rx_fgt [false, false, false, false, true] H
  · replace H := H.2 hc_7
    refine r_aload_n (i := 2) d_M_items_10 rfl rfl ?_
    refine r_iload_n (i := 3) d_M_items_11 rfl rfl ?_
    refine r_iload d_M_items_12 rfl ?_
    refine r_iadd d_M_items_14 ?_
    refine r_iload_n (i := 1) d_M_items_15 rfl rfl ?_
    refine r_iload d_M_items_16 rfl ?_
    refine rk_SI (d' := 1) [.int x1, .int x5] [.int (x3 + x5), .ref 11] d_M_items_18 ml_M_202 rfl rfl (by decide) (Nat.le_of_ble_eq_true rfl) (s_M_usual x1 x5 ?_)
    obtain ⟨hi_21, H⟩ := H
    refine r_iast (b := 11) (i := (x3 + x5).toNatClampNeg) d_M_items_21 (by decide) rfl hi_21 rfl ?_
    refine r_iinc (v := x5 + 1) (lz := [some (.ref 0), some (.int x1), some (.ref 11), some (.int x3), some (.int x4), some (.int (x5 + 1)), none]) d_M_items_22 rfl (by rw [ic_1]) (by decide) rfl rfl ?_
    refine r_goto (tgt := 3) d_M_items_25 (by decide) ?_
    exact H
set_option maxHeartbeats 4000000 in
set_option maxRecDepth 20000 in
theorem w_M_items_11_41 {G : rx_Gh} {hp : rx_Hp} {F : rx_Hp → Prop} (x1 : Int32) (x3 : Int32) (x5 : Int32) (x6 : Int32) (H : ((hp.1 0 4) = (-1) → (x6 = (-1) → F hp) ∧ (¬ x6 = (-1) → ((f_M_has x5 x6) = 0 → Ev wM G 3 q_M_number [.ref 0, .int ((if x1 = 114 then ((if 2 ≤ x6 then 0 else 1) : Int32) else 0) : Int32), .int (f_M_highest x1 x6)] (rx_pf hp 0 3 ((hp.1 0 3) + 1)) (rI fun r2 h1 => vp_in (x3 + x6) 4 ∧ (((h1.1 0 4) = (-1) → Ev wM G 2 q_M_look [.ref 0] (rx_pa h1 11 ((x3 + x6).toNatClampNeg) r2) (rI fun r4 h3 => Rn wM G 4 q_M_items 41 [some (.ref 0), some (.int x1), some (.ref 11), some (.int x3), none, some (.int (x5 ||| (1 <<< (x6 &&& 31)))), some (.int (f_M_itemOf x1 r4))] [] h3 (rV F))) ∧ (¬ (h1.1 0 4) = (-1) → Rn wM G 4 q_M_items 41 [some (.ref 0), some (.int x1), some (.ref 11), some (.int x3), none, some (.int (x5 ||| (1 <<< (x6 &&& 31)))), some (.int (-1))] [] (rx_pa h1 11 ((x3 + x6).toNatClampNeg) r2) (rV F))))) ∧ (¬ (f_M_has x5 x6) = 0 → F hp))) ∧ (¬ (hp.1 0 4) = (-1) → F hp)) : Rn wM G 4 q_M_items 41 [some (.ref 0), some (.int x1), some (.ref 11), some (.int x3), none, some (.int x5), some (.int x6)] [] hp (rV F) := by
  refine r_aload_n (i := 0) d_M_items_41 rfl rfl ?_
  refine r_getI (b := 0) (v := hp.1 0 4) d_M_items_42 fl_M_100 (by decide) rfl rfl rfl ?_
  refine r_iconst d_M_items_45 ic_m1 ?_
  refine r_icmp_ne (tgt := 142) d_M_items_46 (by decide) (fun hc_46 => ?_) (fun hc_46 => ?_)
  · replace H := H.2 hc_46
    exact rV_ret d_M_items_142 rfl H
  · replace H := H.1 hc_46
    refine r_iload d_M_items_49 rfl ?_
    refine r_iconst d_M_items_51 ic_m1 ?_
    refine r_icmp_eq (tgt := 142) d_M_items_52 (by decide) (fun hc_52 => ?_) (fun hc_52 => ?_)
    · replace H := H.1 hc_52
      exact rV_ret d_M_items_142 rfl H
    · replace H := H.2 hc_52
      refine r_iload d_M_items_55 rfl ?_
      refine r_iload d_M_items_57 rfl ?_
      refine rk_SI (d' := 1) [.int x5, .int x6] [] d_M_items_59 ml_M_209 rfl rfl (by decide) (Nat.le_of_ble_eq_true rfl) (s_M_has x5 x6 ?_)
      refine r_if_ne (tgt := 142) d_M_items_62 (by decide) (fun hc_62 => ?_) (fun hc_62 => ?_)
      · replace H := H.2 hc_62
        exact rV_ret d_M_items_142 rfl H
      · replace H := H.1 hc_62
        have J93 : ∀ (v93_0 : Int32), v93_0 = ((if x1 = 114 then ((if 2 ≤ x6 then 0 else 1) : Int32) else 0) : Int32) → Rn wM G 4 q_M_items 107 [some (.ref 0), some (.int x1), some (.ref 11), some (.int x3), none, some (.int (x5 ||| (1 <<< (x6 &&& 31)))), some (.int x6)] [.int v93_0, .ref 0, .int (x3 + x6), .ref 11] (rx_pf hp 0 3 ((hp.1 0 3) + 1)) (rV F) := by
          rintro _ rfl
          refine r_iload_n (i := 1) d_M_items_107 rfl rfl ?_
          refine r_iload d_M_items_108 rfl ?_
          refine rk_SI (d' := 1) [.int x1, .int x6] [.int ((if x1 = 114 then ((if 2 ≤ x6 then 0 else 1) : Int32) else 0) : Int32), .ref 0, .int (x3 + x6), .ref 11] d_M_items_110 ml_M_213 rfl rfl (by decide) (Nat.le_of_ble_eq_true rfl) (s_M_highest x1 x6 ?_)
          refine rc_VI (b := 0) (d' := 3) [.int ((if x1 = 114 then ((if 2 ≤ x6 then 0 else 1) : Int32) else 0) : Int32), .int (f_M_highest x1 x6)] [.int (x3 + x6), .ref 11] d_M_items_113 ml_M_216 rfl rfl (by decide) (by decide) rfl rfl (Nat.le_of_ble_eq_true rfl) H ?_
          intro r2 h1 H
          obtain ⟨hi_116, H⟩ := H
          refine r_iast (b := 11) (i := (x3 + x6).toNatClampNeg) d_M_items_116 (by decide) rfl hi_116 rfl ?_
          refine r_aload_n (i := 0) d_M_items_117 rfl rfl ?_
          refine r_getI (b := 0) (v := h1.1 0 4) d_M_items_118 fl_M_100 (by decide) rfl rfl rfl ?_
          refine r_iconst d_M_items_121 ic_m1 ?_
          refine r_icmp_ne (tgt := 136) d_M_items_122 (by decide) (fun hc_122 => ?_) (fun hc_122 => ?_)
          · replace H := H.2 hc_122
            refine r_iconst d_M_items_136 ic_m1 ?_
            refine r_istore (lz := [some (.ref 0), some (.int x1), some (.ref 11), some (.int x3), none, some (.int (x5 ||| (1 <<< (x6 &&& 31)))), some (.int (-1))]) d_M_items_137 (by decide) rfl rfl ?_
            refine r_goto (tgt := 41) d_M_items_139 (by decide) ?_
            exact H
          · replace H := H.1 hc_122
            refine r_iload_n (i := 1) d_M_items_125 rfl rfl ?_
            refine r_aload_n (i := 0) d_M_items_126 rfl rfl ?_
            refine rc_VI (b := 0) (d' := 2) [] [.int x1] d_M_items_127 ml_M_112 rfl rfl (by decide) (by decide) rfl rfl (Nat.le_of_ble_eq_true rfl) H ?_
            intro r4 h3 H
            refine rk_SI (d' := 1) [.int x1, .int r4] [] d_M_items_130 ml_M_206 rfl rfl (by decide) (Nat.le_of_ble_eq_true rfl) (s_M_itemOf x1 r4 ?_)
            refine r_goto (tgt := 137) d_M_items_133 (by decide) ?_
            refine r_istore (lz := [some (.ref 0), some (.int x1), some (.ref 11), some (.int x3), none, some (.int (x5 ||| (1 <<< (x6 &&& 31)))), some (.int (f_M_itemOf x1 r4))]) d_M_items_137 (by decide) rfl rfl ?_
            refine r_goto (tgt := 41) d_M_items_139 (by decide) ?_
            exact H
        refine r_iload d_M_items_65 rfl ?_
        refine r_iconst d_M_items_67 ic_1 ?_
        refine r_iload d_M_items_68 rfl ?_
        refine r_ishl d_M_items_70 ?_
        refine r_ior d_M_items_71 ?_
        refine r_istore (lz := [some (.ref 0), some (.int x1), some (.ref 11), some (.int x3), none, some (.int (x5 ||| (1 <<< (x6 &&& 31)))), some (.int x6)]) d_M_items_72 (by decide) rfl rfl ?_
        refine r_aload_n (i := 0) d_M_items_74 rfl rfl ?_
        refine r_dupr d_M_items_75 ?_
        refine r_getI (b := 0) (v := hp.1 0 3) d_M_items_76 fl_M_93 (by decide) rfl rfl rfl ?_
        refine r_iconst d_M_items_79 ic_1 ?_
        refine r_iadd d_M_items_80 ?_
        refine r_putI (b := 0) d_M_items_81 fp_M_93 ⟨rfl, rfl⟩ (by decide) rfl rfl ?_
        refine r_aload_n (i := 2) d_M_items_84 rfl rfl ?_
        refine r_iload_n (i := 3) d_M_items_85 rfl rfl ?_
        refine r_iload d_M_items_86 rfl ?_
        refine r_iadd d_M_items_88 ?_
        refine r_aload_n (i := 0) d_M_items_89 rfl rfl ?_
        refine r_iload_n (i := 1) d_M_items_90 rfl rfl ?_
        refine r_bipush d_M_items_91 bp_114 ?_
        refine r_icmp_ne (tgt := 106) d_M_items_93 (by decide) (fun hc_93 => ?_) (fun hc_93 => ?_)
        · refine r_iconst d_M_items_106 ic_0 ?_
          exact J93 _ (((if_neg hc_93).trans rfl)).symm
        · refine r_iload d_M_items_96 rfl ?_
          refine r_iconst d_M_items_98 ic_2 ?_
          refine r_icmp_ge (tgt := 106) d_M_items_99 (by decide) (fun hc_99 => ?_) (fun hc_99 => ?_)
          · refine r_iconst d_M_items_106 ic_0 ?_
            exact J93 _ (((if_pos hc_93).trans ((if_pos hc_99).trans rfl))).symm
          · refine r_iconst d_M_items_102 ic_1 ?_
            refine r_goto (tgt := 107) d_M_items_103 (by decide) ?_
            exact J93 _ (((if_pos hc_93).trans ((if_neg hc_99).trans rfl))).symm
set_option maxHeartbeats 4000000 in
set_option maxRecDepth 20000 in
theorem w_M_items_12 {G : rx_Gh} {hp : rx_Hp} {F : rx_Hp → Prop} (a1 : Int32) (a3 : Int32) (a4 : Int32) (H : Rn wM G 4 q_M_items 3 [some (.ref 0), some (.int a1), some (.ref 12), some (.int a3), some (.int a4), some (.int 0), none] [] hp (rV F)) : Ev wM G 4 q_M_items [.ref 0, .int a1, .ref 12, .int a3, .int a4] hp (rV F) := by
  refine ev_of rfl (Nat.le_of_ble_eq_true rfl) rfl ?_
  show Rn wM G 4 q_M_items 0 [some (.ref 0), some (.int a1), some (.ref 12), some (.int a3), some (.int a4), none, none] [] hp (rV F)
  refine r_iconst d_M_items_0 ic_0 ?_
  refine r_istore (lz := [some (.ref 0), some (.int a1), some (.ref 12), some (.int a3), some (.int a4), some (.int 0), none]) d_M_items_1 (by decide) rfl rfl ?_
  exact H
set_option maxHeartbeats 4000000 in
set_option maxRecDepth 20000 in
theorem w_M_items_12_3 {G : rx_Gh} {hp : rx_Hp} {F : rx_Hp → Prop} (x1 : Int32) (x3 : Int32) (x4 : Int32) (x5 : Int32) (H : (x4 ≤ x5 → Ev wM G 2 q_M_look [.ref 0] hp (rI fun r2 h1 => Rn wM G 4 q_M_items 41 [some (.ref 0), some (.int x1), some (.ref 12), some (.int x3), none, some (.int 0), some (.int (f_M_itemOf x1 r2))] [] h1 (rV F))) ∧ (¬ x4 ≤ x5 → vp_in (x3 + x5) 18 ∧ (Rn wM G 4 q_M_items 3 [some (.ref 0), some (.int x1), some (.ref 12), some (.int x3), some (.int x4), some (.int (x5 + 1)), none] [] (rx_pa hp 12 ((x3 + x5).toNatClampNeg) (f_M_usual x1 x5)) (rV F)))) : Rn wM G 4 q_M_items 3 [some (.ref 0), some (.int x1), some (.ref 12), some (.int x3), some (.int x4), some (.int x5), none] [] hp (rV F) := by
  refine r_iload d_M_items_3 rfl ?_
  refine r_iload d_M_items_5 rfl ?_
  refine r_icmp_ge (tgt := 28) d_M_items_7 (by decide) (fun hc_7 => ?_) (fun hc_7 => ?_)
  · replace H := H.1 hc_7
    refine r_iconst d_M_items_28 ic_0 ?_
    refine r_istore (lz := [some (.ref 0), some (.int x1), some (.ref 12), some (.int x3), some (.int x4), some (.int 0), none]) d_M_items_29 (by decide) rfl rfl ?_
    refine r_iload_n (i := 1) d_M_items_31 rfl rfl ?_
    refine r_aload_n (i := 0) d_M_items_32 rfl rfl ?_
    refine rc_VI (b := 0) (d' := 2) [] [.int x1] d_M_items_33 ml_M_112 rfl rfl (by decide) (by decide) rfl rfl (Nat.le_of_ble_eq_true rfl) H ?_
    intro r2 h1 H
    refine rk_SI (d' := 1) [.int x1, .int r2] [] d_M_items_36 ml_M_206 rfl rfl (by decide) (Nat.le_of_ble_eq_true rfl) (s_M_itemOf x1 r2 ?_)
    refine r_istore (lz := [some (.ref 0), some (.int x1), some (.ref 12), some (.int x3), some (.int x4), some (.int 0), some (.int (f_M_itemOf x1 r2))]) d_M_items_39 (by decide) rfl rfl ?_
    exact rx_fgt [false, false, false, false, true] H
  · replace H := H.2 hc_7
    refine r_aload_n (i := 2) d_M_items_10 rfl rfl ?_
    refine r_iload_n (i := 3) d_M_items_11 rfl rfl ?_
    refine r_iload d_M_items_12 rfl ?_
    refine r_iadd d_M_items_14 ?_
    refine r_iload_n (i := 1) d_M_items_15 rfl rfl ?_
    refine r_iload d_M_items_16 rfl ?_
    refine rk_SI (d' := 1) [.int x1, .int x5] [.int (x3 + x5), .ref 12] d_M_items_18 ml_M_202 rfl rfl (by decide) (Nat.le_of_ble_eq_true rfl) (s_M_usual x1 x5 ?_)
    obtain ⟨hi_21, H⟩ := H
    refine r_iast (b := 12) (i := (x3 + x5).toNatClampNeg) d_M_items_21 (by decide) rfl hi_21 rfl ?_
    refine r_iinc (v := x5 + 1) (lz := [some (.ref 0), some (.int x1), some (.ref 12), some (.int x3), some (.int x4), some (.int (x5 + 1)), none]) d_M_items_22 rfl (by rw [ic_1]) (by decide) rfl rfl ?_
    refine r_goto (tgt := 3) d_M_items_25 (by decide) ?_
    exact H
set_option maxHeartbeats 4000000 in
set_option maxRecDepth 20000 in
theorem w_M_items_12_41 {G : rx_Gh} {hp : rx_Hp} {F : rx_Hp → Prop} (x1 : Int32) (x3 : Int32) (x5 : Int32) (x6 : Int32) (H : ((hp.1 0 4) = (-1) → (x6 = (-1) → F hp) ∧ (¬ x6 = (-1) → ((f_M_has x5 x6) = 0 → Ev wM G 3 q_M_number [.ref 0, .int ((if x1 = 114 then ((if 2 ≤ x6 then 0 else 1) : Int32) else 0) : Int32), .int (f_M_highest x1 x6)] (rx_pf hp 0 3 ((hp.1 0 3) + 1)) (rI fun r2 h1 => vp_in (x3 + x6) 18 ∧ (((h1.1 0 4) = (-1) → Ev wM G 2 q_M_look [.ref 0] (rx_pa h1 12 ((x3 + x6).toNatClampNeg) r2) (rI fun r4 h3 => Rn wM G 4 q_M_items 41 [some (.ref 0), some (.int x1), some (.ref 12), some (.int x3), none, some (.int (x5 ||| (1 <<< (x6 &&& 31)))), some (.int (f_M_itemOf x1 r4))] [] h3 (rV F))) ∧ (¬ (h1.1 0 4) = (-1) → Rn wM G 4 q_M_items 41 [some (.ref 0), some (.int x1), some (.ref 12), some (.int x3), none, some (.int (x5 ||| (1 <<< (x6 &&& 31)))), some (.int (-1))] [] (rx_pa h1 12 ((x3 + x6).toNatClampNeg) r2) (rV F))))) ∧ (¬ (f_M_has x5 x6) = 0 → F hp))) ∧ (¬ (hp.1 0 4) = (-1) → F hp)) : Rn wM G 4 q_M_items 41 [some (.ref 0), some (.int x1), some (.ref 12), some (.int x3), none, some (.int x5), some (.int x6)] [] hp (rV F) := by
  refine r_aload_n (i := 0) d_M_items_41 rfl rfl ?_
  refine r_getI (b := 0) (v := hp.1 0 4) d_M_items_42 fl_M_100 (by decide) rfl rfl rfl ?_
  refine r_iconst d_M_items_45 ic_m1 ?_
  refine r_icmp_ne (tgt := 142) d_M_items_46 (by decide) (fun hc_46 => ?_) (fun hc_46 => ?_)
  · replace H := H.2 hc_46
    exact rV_ret d_M_items_142 rfl H
  · replace H := H.1 hc_46
    refine r_iload d_M_items_49 rfl ?_
    refine r_iconst d_M_items_51 ic_m1 ?_
    refine r_icmp_eq (tgt := 142) d_M_items_52 (by decide) (fun hc_52 => ?_) (fun hc_52 => ?_)
    · replace H := H.1 hc_52
      exact rV_ret d_M_items_142 rfl H
    · replace H := H.2 hc_52
      refine r_iload d_M_items_55 rfl ?_
      refine r_iload d_M_items_57 rfl ?_
      refine rk_SI (d' := 1) [.int x5, .int x6] [] d_M_items_59 ml_M_209 rfl rfl (by decide) (Nat.le_of_ble_eq_true rfl) (s_M_has x5 x6 ?_)
      refine r_if_ne (tgt := 142) d_M_items_62 (by decide) (fun hc_62 => ?_) (fun hc_62 => ?_)
      · replace H := H.2 hc_62
        exact rV_ret d_M_items_142 rfl H
      · replace H := H.1 hc_62
        have J93 : ∀ (v93_0 : Int32), v93_0 = ((if x1 = 114 then ((if 2 ≤ x6 then 0 else 1) : Int32) else 0) : Int32) → Rn wM G 4 q_M_items 107 [some (.ref 0), some (.int x1), some (.ref 12), some (.int x3), none, some (.int (x5 ||| (1 <<< (x6 &&& 31)))), some (.int x6)] [.int v93_0, .ref 0, .int (x3 + x6), .ref 12] (rx_pf hp 0 3 ((hp.1 0 3) + 1)) (rV F) := by
          rintro _ rfl
          refine r_iload_n (i := 1) d_M_items_107 rfl rfl ?_
          refine r_iload d_M_items_108 rfl ?_
          refine rk_SI (d' := 1) [.int x1, .int x6] [.int ((if x1 = 114 then ((if 2 ≤ x6 then 0 else 1) : Int32) else 0) : Int32), .ref 0, .int (x3 + x6), .ref 12] d_M_items_110 ml_M_213 rfl rfl (by decide) (Nat.le_of_ble_eq_true rfl) (s_M_highest x1 x6 ?_)
          refine rc_VI (b := 0) (d' := 3) [.int ((if x1 = 114 then ((if 2 ≤ x6 then 0 else 1) : Int32) else 0) : Int32), .int (f_M_highest x1 x6)] [.int (x3 + x6), .ref 12] d_M_items_113 ml_M_216 rfl rfl (by decide) (by decide) rfl rfl (Nat.le_of_ble_eq_true rfl) H ?_
          intro r2 h1 H
          obtain ⟨hi_116, H⟩ := H
          refine r_iast (b := 12) (i := (x3 + x6).toNatClampNeg) d_M_items_116 (by decide) rfl hi_116 rfl ?_
          refine r_aload_n (i := 0) d_M_items_117 rfl rfl ?_
          refine r_getI (b := 0) (v := h1.1 0 4) d_M_items_118 fl_M_100 (by decide) rfl rfl rfl ?_
          refine r_iconst d_M_items_121 ic_m1 ?_
          refine r_icmp_ne (tgt := 136) d_M_items_122 (by decide) (fun hc_122 => ?_) (fun hc_122 => ?_)
          · replace H := H.2 hc_122
            refine r_iconst d_M_items_136 ic_m1 ?_
            refine r_istore (lz := [some (.ref 0), some (.int x1), some (.ref 12), some (.int x3), none, some (.int (x5 ||| (1 <<< (x6 &&& 31)))), some (.int (-1))]) d_M_items_137 (by decide) rfl rfl ?_
            refine r_goto (tgt := 41) d_M_items_139 (by decide) ?_
            exact H
          · replace H := H.1 hc_122
            refine r_iload_n (i := 1) d_M_items_125 rfl rfl ?_
            refine r_aload_n (i := 0) d_M_items_126 rfl rfl ?_
            refine rc_VI (b := 0) (d' := 2) [] [.int x1] d_M_items_127 ml_M_112 rfl rfl (by decide) (by decide) rfl rfl (Nat.le_of_ble_eq_true rfl) H ?_
            intro r4 h3 H
            refine rk_SI (d' := 1) [.int x1, .int r4] [] d_M_items_130 ml_M_206 rfl rfl (by decide) (Nat.le_of_ble_eq_true rfl) (s_M_itemOf x1 r4 ?_)
            refine r_goto (tgt := 137) d_M_items_133 (by decide) ?_
            refine r_istore (lz := [some (.ref 0), some (.int x1), some (.ref 12), some (.int x3), none, some (.int (x5 ||| (1 <<< (x6 &&& 31)))), some (.int (f_M_itemOf x1 r4))]) d_M_items_137 (by decide) rfl rfl ?_
            refine r_goto (tgt := 41) d_M_items_139 (by decide) ?_
            exact H
        refine r_iload d_M_items_65 rfl ?_
        refine r_iconst d_M_items_67 ic_1 ?_
        refine r_iload d_M_items_68 rfl ?_
        refine r_ishl d_M_items_70 ?_
        refine r_ior d_M_items_71 ?_
        refine r_istore (lz := [some (.ref 0), some (.int x1), some (.ref 12), some (.int x3), none, some (.int (x5 ||| (1 <<< (x6 &&& 31)))), some (.int x6)]) d_M_items_72 (by decide) rfl rfl ?_
        refine r_aload_n (i := 0) d_M_items_74 rfl rfl ?_
        refine r_dupr d_M_items_75 ?_
        refine r_getI (b := 0) (v := hp.1 0 3) d_M_items_76 fl_M_93 (by decide) rfl rfl rfl ?_
        refine r_iconst d_M_items_79 ic_1 ?_
        refine r_iadd d_M_items_80 ?_
        refine r_putI (b := 0) d_M_items_81 fp_M_93 ⟨rfl, rfl⟩ (by decide) rfl rfl ?_
        refine r_aload_n (i := 2) d_M_items_84 rfl rfl ?_
        refine r_iload_n (i := 3) d_M_items_85 rfl rfl ?_
        refine r_iload d_M_items_86 rfl ?_
        refine r_iadd d_M_items_88 ?_
        refine r_aload_n (i := 0) d_M_items_89 rfl rfl ?_
        refine r_iload_n (i := 1) d_M_items_90 rfl rfl ?_
        refine r_bipush d_M_items_91 bp_114 ?_
        refine r_icmp_ne (tgt := 106) d_M_items_93 (by decide) (fun hc_93 => ?_) (fun hc_93 => ?_)
        · refine r_iconst d_M_items_106 ic_0 ?_
          exact J93 _ (((if_neg hc_93).trans rfl)).symm
        · refine r_iload d_M_items_96 rfl ?_
          refine r_iconst d_M_items_98 ic_2 ?_
          refine r_icmp_ge (tgt := 106) d_M_items_99 (by decide) (fun hc_99 => ?_) (fun hc_99 => ?_)
          · refine r_iconst d_M_items_106 ic_0 ?_
            exact J93 _ (((if_pos hc_93).trans ((if_pos hc_99).trans rfl))).symm
          · refine r_iconst d_M_items_102 ic_1 ?_
            refine r_goto (tgt := 107) d_M_items_103 (by decide) ?_
            exact J93 _ (((if_pos hc_93).trans ((if_neg hc_99).trans rfl))).symm
set_option maxHeartbeats 4000000 in
set_option maxRecDepth 20000 in
theorem w_M_readHall {G : rx_Gh} {hp : rx_Hp} {F : Int32 → rx_Hp → Prop}  (H : Rn wM G 5 q_M_readHall 17 [some (.ref 0), some (.int 0), none, none] [] (rx_pf (rx_pf (rx_pf hp 0 3 0) 0 4 (-1)) 0 19 0) (rI F)) : Ev wM G 5 q_M_readHall [.ref 0] hp (rI F) := by
  refine ev_of rfl (Nat.le_of_ble_eq_true rfl) rfl ?_
  show Rn wM G 5 q_M_readHall 0 [some (.ref 0), none, none, none] [] hp (rI F)
  refine r_aload_n (i := 0) d_M_readHall_0 rfl rfl ?_
  refine r_iconst d_M_readHall_1 ic_0 ?_
  refine r_putI (b := 0) d_M_readHall_2 fp_M_93 ⟨rfl, rfl⟩ (by decide) rfl rfl ?_
  refine r_aload_n (i := 0) d_M_readHall_5 rfl rfl ?_
  refine r_iconst d_M_readHall_6 ic_m1 ?_
  refine r_putI (b := 0) d_M_readHall_7 fp_M_100 ⟨rfl, rfl⟩ (by decide) rfl rfl ?_
  refine r_aload_n (i := 0) d_M_readHall_10 rfl rfl ?_
  refine r_iconst d_M_readHall_11 ic_0 ?_
  refine r_putI (b := 0) d_M_readHall_12 fp_M_219 ⟨rfl, rfl⟩ (by decide) rfl rfl ?_
  refine r_iconst d_M_readHall_15 ic_0 ?_
  refine r_istore_n (i := 1) (lz := [some (.ref 0), some (.int 0), none, none]) d_M_readHall_16 rfl (by decide) rfl rfl ?_
  exact H
set_option maxHeartbeats 4000000 in
set_option maxRecDepth 20000 in
theorem w_M_readHall_17 {G : rx_Gh} {hp : rx_Hp} {F : Int32 → rx_Hp → Prop} (x1 : Int32) (H : (4 ≤ x1 → Rn wM G 5 q_M_readHall 44 [some (.ref 0), some (.int 0), some (.int 1), none] [] hp (rI F)) ∧ (¬ 4 ≤ x1 → vp_in x1 4 ∧ (Rn wM G 5 q_M_readHall 17 [some (.ref 0), some (.int (x1 + 1)), none, none] [] (rx_pa hp 11 x1.toNatClampNeg (f_M_usual 114 x1)) (rI F)))) : Rn wM G 5 q_M_readHall 17 [some (.ref 0), some (.int x1), none, none] [] hp (rI F) := by
  refine r_iload_n (i := 1) d_M_readHall_17 rfl rfl ?_
  refine r_iconst d_M_readHall_18 ic_4 ?_
  refine r_icmp_ge (tgt := 40) d_M_readHall_19 (by decide) (fun hc_19 => ?_) (fun hc_19 => ?_)
  · replace H := H.1 hc_19
    refine r_iconst d_M_readHall_40 ic_0 ?_
    refine r_istore_n (i := 1) (lz := [some (.ref 0), some (.int 0), none, none]) d_M_readHall_41 rfl (by decide) rfl rfl ?_
    refine r_iconst d_M_readHall_42 ic_1 ?_
    refine r_istore_n (i := 2) (lz := [some (.ref 0), some (.int 0), some (.int 1), none]) d_M_readHall_43 rfl (by decide) rfl rfl ?_
    exact H
  · replace H := H.2 hc_19
    refine r_aload_n (i := 0) d_M_readHall_22 rfl rfl ?_
    refine r_getR (b := 0) (r := 11) d_M_readHall_23 fl_M_40 (by decide) rfl rfl rfl ?_
    refine r_iload_n (i := 1) d_M_readHall_26 rfl rfl ?_
    refine r_bipush d_M_readHall_27 bp_114 ?_
    refine r_iload_n (i := 1) d_M_readHall_29 rfl rfl ?_
    refine rk_SI (d' := 1) [.int 114, .int x1] [.int x1, .ref 11] d_M_readHall_30 ml_M_202 rfl rfl (by decide) (Nat.le_of_ble_eq_true rfl) (s_M_usual 114 x1 ?_)
    obtain ⟨hi_33, H⟩ := H
    refine r_iast (b := 11) (i := x1.toNatClampNeg) d_M_readHall_33 (by decide) rfl hi_33 rfl ?_
    refine r_iinc (v := x1 + 1) (lz := [some (.ref 0), some (.int (x1 + 1)), none, none]) d_M_readHall_34 rfl (by rw [ic_1]) (by decide) rfl rfl ?_
    refine r_goto (tgt := 17) d_M_readHall_37 (by decide) ?_
    exact H
set_option maxHeartbeats 4000000 in
set_option maxRecDepth 20000 in
theorem w_M_readHall_44 {G : rx_Gh} {hp : rx_Hp} {F : Int32 → rx_Hp → Prop} (x1 : Int32) (x2 : Int32) (H : (x2 = 0 → ((hp.1 0 4) = (-1) → Ev wM G 2 q_M_look [.ref 0] hp (rI fun r2 h1 => (r2 = (-1) → Ev wM G 1 q_M_areInside [.ref 0] h1 (rI fun r4 h3 => (r4 = 0 → F ((g_M_bad h3).1 0 4) (g_M_bad h3)) ∧ (¬ r4 = 0 → F (h3.1 0 4) h3))) ∧ (¬ r2 = (-1) → F ((g_M_bad h1).1 0 4) (g_M_bad h1)))) ∧ (¬ (hp.1 0 4) = (-1) → F (hp.1 0 4) hp)) ∧ (¬ x2 = 0 → ((hp.1 0 4) = (-1) → Ev wM G 2 q_M_look [.ref 0] hp (rI fun r6 h5 => (r6 = 114 → (x1 = 0 → Ev wM G 4 q_M_items [.ref 0, .int r6, .ref 11, .int 0, .int 4] (rx_pf h5 0 3 ((h5.1 0 3) + 1)) (rV fun h7 => ((h7.1 0 4) = (-1) → Ev wM G 2 q_M_look [.ref 0] h7 (rI fun r9 h8 => Rn wM G 5 q_M_readHall 44 [some (.ref 0), some (.int 1), some (.int ((if r9 = 59 then 1 else 0) : Int32)), none] [] (rx_pf h8 0 3 ((h8.1 0 3) + ((if ((if r9 = 59 then 1 else 0) : Int32) = 0 then 0 else 1) : Int32))) (rI F))) ∧ (¬ (h7.1 0 4) = (-1) → Rn wM G 5 q_M_readHall 44 [some (.ref 0), some (.int 1), some (.int 0), none] [] (rx_pf h7 0 3 ((h7.1 0 3) + 0)) (rI F)))) ∧ (¬ x1 = 0 → (r6 = 98 → (6 ≤ (h5.1 0 19) → (((g_M_bad h5).1 0 4) = (-1) → Ev wM G 2 q_M_look [.ref 0] (g_M_bad h5) (rI fun r11 h10 => Rn wM G 5 q_M_readHall 44 [some (.ref 0), some (.int x1), some (.int ((if r11 = 59 then 1 else 0) : Int32)), none] [] (rx_pf h10 0 3 ((h10.1 0 3) + ((if ((if r11 = 59 then 1 else 0) : Int32) = 0 then 0 else 1) : Int32))) (rI F))) ∧ (¬ ((g_M_bad h5).1 0 4) = (-1) → Rn wM G 5 q_M_readHall 44 [some (.ref 0), some (.int x1), some (.int 0), none] [] (rx_pf (g_M_bad h5) 0 3 (((g_M_bad h5).1 0 3) + 0)) (rI F))) ∧ (¬ 6 ≤ (h5.1 0 19) → Ev wM G 4 q_M_items [.ref 0, .int r6, .ref 12, .int (3 * (h5.1 0 19)), .int 3] (rx_pf h5 0 3 ((h5.1 0 3) + 1)) (rV fun h12 => ((h12.1 0 4) = (-1) → Ev wM G 2 q_M_look [.ref 0] (rx_pf h12 0 19 ((h12.1 0 19) + 1)) (rI fun r14 h13 => Rn wM G 5 q_M_readHall 44 [some (.ref 0), some (.int x1), some (.int ((if r14 = 59 then 1 else 0) : Int32)), none] [] (rx_pf h13 0 3 ((h13.1 0 3) + ((if ((if r14 = 59 then 1 else 0) : Int32) = 0 then 0 else 1) : Int32))) (rI F))) ∧ (¬ (h12.1 0 4) = (-1) → Rn wM G 5 q_M_readHall 44 [some (.ref 0), some (.int x1), some (.int 0), none] [] (rx_pf (rx_pf h12 0 19 ((h12.1 0 19) + 1)) 0 3 ((h12.1 0 3) + 0)) (rI F))))) ∧ (¬ r6 = 98 → (((g_M_bad h5).1 0 4) = (-1) → Ev wM G 2 q_M_look [.ref 0] (g_M_bad h5) (rI fun r16 h15 => Rn wM G 5 q_M_readHall 44 [some (.ref 0), some (.int x1), some (.int ((if r16 = 59 then 1 else 0) : Int32)), none] [] (rx_pf h15 0 3 ((h15.1 0 3) + ((if ((if r16 = 59 then 1 else 0) : Int32) = 0 then 0 else 1) : Int32))) (rI F))) ∧ (¬ ((g_M_bad h5).1 0 4) = (-1) → Rn wM G 5 q_M_readHall 44 [some (.ref 0), some (.int x1), some (.int 0), none] [] (rx_pf (g_M_bad h5) 0 3 (((g_M_bad h5).1 0 3) + 0)) (rI F))))) ∧ (¬ r6 = 114 → (r6 = 98 → (6 ≤ (h5.1 0 19) → (((g_M_bad h5).1 0 4) = (-1) → Ev wM G 2 q_M_look [.ref 0] (g_M_bad h5) (rI fun r18 h17 => Rn wM G 5 q_M_readHall 44 [some (.ref 0), some (.int x1), some (.int ((if r18 = 59 then 1 else 0) : Int32)), none] [] (rx_pf h17 0 3 ((h17.1 0 3) + ((if ((if r18 = 59 then 1 else 0) : Int32) = 0 then 0 else 1) : Int32))) (rI F))) ∧ (¬ ((g_M_bad h5).1 0 4) = (-1) → Rn wM G 5 q_M_readHall 44 [some (.ref 0), some (.int x1), some (.int 0), none] [] (rx_pf (g_M_bad h5) 0 3 (((g_M_bad h5).1 0 3) + 0)) (rI F))) ∧ (¬ 6 ≤ (h5.1 0 19) → Ev wM G 4 q_M_items [.ref 0, .int r6, .ref 12, .int (3 * (h5.1 0 19)), .int 3] (rx_pf h5 0 3 ((h5.1 0 3) + 1)) (rV fun h19 => ((h19.1 0 4) = (-1) → Ev wM G 2 q_M_look [.ref 0] (rx_pf h19 0 19 ((h19.1 0 19) + 1)) (rI fun r21 h20 => Rn wM G 5 q_M_readHall 44 [some (.ref 0), some (.int x1), some (.int ((if r21 = 59 then 1 else 0) : Int32)), none] [] (rx_pf h20 0 3 ((h20.1 0 3) + ((if ((if r21 = 59 then 1 else 0) : Int32) = 0 then 0 else 1) : Int32))) (rI F))) ∧ (¬ (h19.1 0 4) = (-1) → Rn wM G 5 q_M_readHall 44 [some (.ref 0), some (.int x1), some (.int 0), none] [] (rx_pf (rx_pf h19 0 19 ((h19.1 0 19) + 1)) 0 3 ((h19.1 0 3) + 0)) (rI F))))) ∧ (¬ r6 = 98 → (((g_M_bad h5).1 0 4) = (-1) → Ev wM G 2 q_M_look [.ref 0] (g_M_bad h5) (rI fun r23 h22 => Rn wM G 5 q_M_readHall 44 [some (.ref 0), some (.int x1), some (.int ((if r23 = 59 then 1 else 0) : Int32)), none] [] (rx_pf h22 0 3 ((h22.1 0 3) + ((if ((if r23 = 59 then 1 else 0) : Int32) = 0 then 0 else 1) : Int32))) (rI F))) ∧ (¬ ((g_M_bad h5).1 0 4) = (-1) → Rn wM G 5 q_M_readHall 44 [some (.ref 0), some (.int x1), some (.int 0), none] [] (rx_pf (g_M_bad h5) 0 3 (((g_M_bad h5).1 0 3) + 0)) (rI F)))))) ∧ (¬ (hp.1 0 4) = (-1) → F (hp.1 0 4) hp))) : Rn wM G 5 q_M_readHall 44 [some (.ref 0), some (.int x1), some (.int x2), none] [] hp (rI F) := by
  refine r_iload_n (i := 2) d_M_readHall_44 rfl rfl ?_
  refine r_if_eq (tgt := 199) d_M_readHall_45 (by decide) (fun hc_45 => ?_) (fun hc_45 => ?_)
  · replace H := H.1 hc_45
    refine r_aload_n (i := 0) d_M_readHall_199 rfl rfl ?_
    refine r_getI (b := 0) (v := hp.1 0 4) d_M_readHall_200 fl_M_100 (by decide) rfl rfl rfl ?_
    refine r_iconst d_M_readHall_203 ic_m1 ?_
    refine r_icmp_ne (tgt := 226) d_M_readHall_204 (by decide) (fun hc_204 => ?_) (fun hc_204 => ?_)
    · replace H := H.2 hc_204
      refine r_aload_n (i := 0) d_M_readHall_226 rfl rfl ?_
      refine r_getI (b := 0) (v := hp.1 0 4) d_M_readHall_227 fl_M_100 (by decide) rfl rfl rfl ?_
      exact rI_ret d_M_readHall_230 rfl H
    · replace H := H.1 hc_204
      refine r_aload_n (i := 0) d_M_readHall_207 rfl rfl ?_
      refine rc_VI (b := 0) (d' := 2) [] [] d_M_readHall_208 ml_M_112 rfl rfl (by decide) (by decide) rfl rfl (Nat.le_of_ble_eq_true rfl) H ?_
      intro r2 h1 H
      refine r_iconst d_M_readHall_211 ic_m1 ?_
      refine r_icmp_ne (tgt := 222) d_M_readHall_212 (by decide) (fun hc_212 => ?_) (fun hc_212 => ?_)
      · replace H := H.2 hc_212
        refine r_aload_n (i := 0) d_M_readHall_222 rfl rfl ?_
        refine rk_VV (b := 0) (d' := 1) [] [] d_M_readHall_223 ml_M_109 rfl rfl (by decide) (by decide) rfl rfl (Nat.le_of_ble_eq_true rfl) (s_M_bad  ?_)
        refine r_aload_n (i := 0) d_M_readHall_226 rfl rfl ?_
        refine r_getI (b := 0) (v := (g_M_bad h1).1 0 4) d_M_readHall_227 fl_M_100 (by decide) rfl rfl rfl ?_
        exact rI_ret d_M_readHall_230 rfl H
      · replace H := H.1 hc_212
        refine r_aload_n (i := 0) d_M_readHall_215 rfl rfl ?_
        refine rc_VI (b := 0) (d' := 1) [] [] d_M_readHall_216 ml_M_226 rfl rfl (by decide) (by decide) rfl rfl (Nat.le_of_ble_eq_true rfl) H ?_
        intro r4 h3 H
        refine r_if_ne (tgt := 226) d_M_readHall_219 (by decide) (fun hc_219 => ?_) (fun hc_219 => ?_)
        · replace H := H.2 hc_219
          refine r_aload_n (i := 0) d_M_readHall_226 rfl rfl ?_
          refine r_getI (b := 0) (v := h3.1 0 4) d_M_readHall_227 fl_M_100 (by decide) rfl rfl rfl ?_
          exact rI_ret d_M_readHall_230 rfl H
        · replace H := H.1 hc_219
          refine r_aload_n (i := 0) d_M_readHall_222 rfl rfl ?_
          refine rk_VV (b := 0) (d' := 1) [] [] d_M_readHall_223 ml_M_109 rfl rfl (by decide) (by decide) rfl rfl (Nat.le_of_ble_eq_true rfl) (s_M_bad  ?_)
          refine r_aload_n (i := 0) d_M_readHall_226 rfl rfl ?_
          refine r_getI (b := 0) (v := (g_M_bad h3).1 0 4) d_M_readHall_227 fl_M_100 (by decide) rfl rfl rfl ?_
          exact rI_ret d_M_readHall_230 rfl H
  · replace H := H.2 hc_45
    refine r_aload_n (i := 0) d_M_readHall_48 rfl rfl ?_
    refine r_getI (b := 0) (v := hp.1 0 4) d_M_readHall_49 fl_M_100 (by decide) rfl rfl rfl ?_
    refine r_iconst d_M_readHall_52 ic_m1 ?_
    refine r_icmp_ne (tgt := 199) d_M_readHall_53 (by decide) (fun hc_53 => ?_) (fun hc_53 => ?_)
    · replace H := H.2 hc_53
      refine r_aload_n (i := 0) d_M_readHall_199 rfl rfl ?_
      refine r_getI (b := 0) (v := hp.1 0 4) d_M_readHall_200 fl_M_100 (by decide) rfl rfl rfl ?_
      refine r_iconst d_M_readHall_203 ic_m1 ?_
      refine r_icmp_ne (tgt := 226) d_M_readHall_204 (by decide) (fun _ => ?_) (fun h => absurd h hc_53)
      refine r_aload_n (i := 0) d_M_readHall_226 rfl rfl ?_
      refine r_getI (b := 0) (v := hp.1 0 4) d_M_readHall_227 fl_M_100 (by decide) rfl rfl rfl ?_
      exact rI_ret d_M_readHall_230 rfl H
    · replace H := H.1 hc_53
      refine r_aload_n (i := 0) d_M_readHall_56 rfl rfl ?_
      refine rc_VI (b := 0) (d' := 2) [] [] d_M_readHall_57 ml_M_112 rfl rfl (by decide) (by decide) rfl rfl (Nat.le_of_ble_eq_true rfl) H ?_
      intro r6 h5 H
      refine r_istore_n (i := 3) (lz := [some (.ref 0), some (.int x1), some (.int x2), some (.int r6)]) d_M_readHall_60 rfl (by decide) rfl rfl ?_
      refine r_iload_n (i := 3) d_M_readHall_61 rfl rfl ?_
      refine r_bipush d_M_readHall_62 bp_114 ?_
      refine r_icmp_ne (tgt := 97) d_M_readHall_64 (by decide) (fun hc_64 => ?_) (fun hc_64 => ?_)
      · replace H := H.2 hc_64
        refine r_iload_n (i := 3) d_M_readHall_97 rfl rfl ?_
        refine r_bipush d_M_readHall_98 bp_98 ?_
        refine r_icmp_ne (tgt := 151) d_M_readHall_100 (by decide) (fun hc_100 => ?_) (fun hc_100 => ?_)
        · replace H := H.2 hc_100
          refine r_aload_n (i := 0) d_M_readHall_151 rfl rfl ?_
          refine rk_VV (b := 0) (d' := 1) [] [] d_M_readHall_152 ml_M_109 rfl rfl (by decide) (by decide) rfl rfl (Nat.le_of_ble_eq_true rfl) (s_M_bad  ?_)
          refine r_aload_n (i := 0) d_M_readHall_155 rfl rfl ?_
          refine r_getI (b := 0) (v := (g_M_bad h5).1 0 4) d_M_readHall_156 fl_M_100 (by decide) rfl rfl rfl ?_
          refine r_iconst d_M_readHall_159 ic_m1 ?_
          refine r_icmp_ne (tgt := 176) d_M_readHall_160 (by decide) (fun hc_160 => ?_) (fun hc_160 => ?_)
          · replace H := H.2 hc_160
            refine r_iconst d_M_readHall_176 ic_0 ?_
            refine r_istore_n (i := 2) (lz := [some (.ref 0), some (.int x1), some (.int 0), some (.int r6)]) d_M_readHall_177 rfl (by decide) rfl rfl ?_
            refine r_aload_n (i := 0) d_M_readHall_178 rfl rfl ?_
            refine r_dupr d_M_readHall_179 ?_
            refine r_getI (b := 0) (v := (g_M_bad h5).1 0 3) d_M_readHall_180 fl_M_93 (by decide) rfl rfl rfl ?_
            refine r_iload_n (i := 2) d_M_readHall_183 rfl rfl ?_
            refine r_if_eq (tgt := 191) d_M_readHall_184 (by decide) (fun _ => ?_) (fun h => absurd (by decide) h)
            refine r_iconst d_M_readHall_191 ic_0 ?_
            refine r_iadd d_M_readHall_192 ?_
            refine r_putI (b := 0) d_M_readHall_193 fp_M_93 ⟨rfl, rfl⟩ (by decide) rfl rfl ?_
            refine r_goto (tgt := 44) d_M_readHall_196 (by decide) ?_
            exact rx_fgt [false, false, false, true] H
          · replace H := H.1 hc_160
            refine r_aload_n (i := 0) d_M_readHall_163 rfl rfl ?_
            refine rc_VI (b := 0) (d' := 2) [] [] d_M_readHall_164 ml_M_112 rfl rfl (by decide) (by decide) rfl rfl (Nat.le_of_ble_eq_true rfl) H ?_
            intro r23 h22 H
            have J169 : ∀ (v169_0 : Int32), v169_0 = ((if r23 = 59 then 1 else 0) : Int32) → Rn wM G 5 q_M_readHall 177 [some (.ref 0), some (.int x1), some (.int x2), some (.int r6)] [.int v169_0] h22 (rI F) := by
              rintro _ rfl
              have J184 : ∀ (v184_0 : Int32), v184_0 = ((if ((if r23 = 59 then 1 else 0) : Int32) = 0 then 0 else 1) : Int32) → Rn wM G 5 q_M_readHall 192 [some (.ref 0), some (.int x1), some (.int ((if r23 = 59 then 1 else 0) : Int32)), some (.int r6)] [.int v184_0, .int (h22.1 0 3), .ref 0] h22 (rI F) := by
                rintro _ rfl
                refine r_iadd d_M_readHall_192 ?_
                refine r_putI (b := 0) d_M_readHall_193 fp_M_93 ⟨rfl, rfl⟩ (by decide) rfl rfl ?_
                refine r_goto (tgt := 44) d_M_readHall_196 (by decide) ?_
                exact rx_fgt [false, false, false, true] H
              refine r_istore_n (i := 2) (lz := [some (.ref 0), some (.int x1), some (.int ((if r23 = 59 then 1 else 0) : Int32)), some (.int r6)]) d_M_readHall_177 rfl (by decide) rfl rfl ?_
              refine r_aload_n (i := 0) d_M_readHall_178 rfl rfl ?_
              refine r_dupr d_M_readHall_179 ?_
              refine r_getI (b := 0) (v := h22.1 0 3) d_M_readHall_180 fl_M_93 (by decide) rfl rfl rfl ?_
              refine r_iload_n (i := 2) d_M_readHall_183 rfl rfl ?_
              refine r_if_eq (tgt := 191) d_M_readHall_184 (by decide) (fun hc_184 => ?_) (fun hc_184 => ?_)
              · refine r_iconst d_M_readHall_191 ic_0 ?_
                exact J184 _ (((if_pos hc_184).trans rfl)).symm
              · refine r_iconst d_M_readHall_187 ic_1 ?_
                refine r_goto (tgt := 192) d_M_readHall_188 (by decide) ?_
                exact J184 _ (((if_neg hc_184).trans rfl)).symm
            refine r_bipush d_M_readHall_167 bp_59 ?_
            refine r_icmp_ne (tgt := 176) d_M_readHall_169 (by decide) (fun hc_169 => ?_) (fun hc_169 => ?_)
            · refine r_iconst d_M_readHall_176 ic_0 ?_
              exact J169 _ (((if_neg hc_169).trans rfl)).symm
            · refine r_iconst d_M_readHall_172 ic_1 ?_
              refine r_goto (tgt := 177) d_M_readHall_173 (by decide) ?_
              exact J169 _ (((if_pos hc_169).trans rfl)).symm
        · replace H := H.1 hc_100
          refine r_aload_n (i := 0) d_M_readHall_103 rfl rfl ?_
          refine r_getI (b := 0) (v := h5.1 0 19) d_M_readHall_104 fl_M_219 (by decide) rfl rfl rfl ?_
          refine r_bipush d_M_readHall_107 bp_6 ?_
          refine r_icmp_ge (tgt := 151) d_M_readHall_109 (by decide) (fun hc_109 => ?_) (fun hc_109 => ?_)
          · replace H := H.1 hc_109
            refine r_aload_n (i := 0) d_M_readHall_151 rfl rfl ?_
            refine rk_VV (b := 0) (d' := 1) [] [] d_M_readHall_152 ml_M_109 rfl rfl (by decide) (by decide) rfl rfl (Nat.le_of_ble_eq_true rfl) (s_M_bad  ?_)
            refine r_aload_n (i := 0) d_M_readHall_155 rfl rfl ?_
            refine r_getI (b := 0) (v := (g_M_bad h5).1 0 4) d_M_readHall_156 fl_M_100 (by decide) rfl rfl rfl ?_
            refine r_iconst d_M_readHall_159 ic_m1 ?_
            refine r_icmp_ne (tgt := 176) d_M_readHall_160 (by decide) (fun hc_160 => ?_) (fun hc_160 => ?_)
            · replace H := H.2 hc_160
              refine r_iconst d_M_readHall_176 ic_0 ?_
              refine r_istore_n (i := 2) (lz := [some (.ref 0), some (.int x1), some (.int 0), some (.int r6)]) d_M_readHall_177 rfl (by decide) rfl rfl ?_
              refine r_aload_n (i := 0) d_M_readHall_178 rfl rfl ?_
              refine r_dupr d_M_readHall_179 ?_
              refine r_getI (b := 0) (v := (g_M_bad h5).1 0 3) d_M_readHall_180 fl_M_93 (by decide) rfl rfl rfl ?_
              refine r_iload_n (i := 2) d_M_readHall_183 rfl rfl ?_
              refine r_if_eq (tgt := 191) d_M_readHall_184 (by decide) (fun _ => ?_) (fun h => absurd (by decide) h)
              refine r_iconst d_M_readHall_191 ic_0 ?_
              refine r_iadd d_M_readHall_192 ?_
              refine r_putI (b := 0) d_M_readHall_193 fp_M_93 ⟨rfl, rfl⟩ (by decide) rfl rfl ?_
              refine r_goto (tgt := 44) d_M_readHall_196 (by decide) ?_
              exact rx_fgt [false, false, false, true] H
            · replace H := H.1 hc_160
              refine r_aload_n (i := 0) d_M_readHall_163 rfl rfl ?_
              refine rc_VI (b := 0) (d' := 2) [] [] d_M_readHall_164 ml_M_112 rfl rfl (by decide) (by decide) rfl rfl (Nat.le_of_ble_eq_true rfl) H ?_
              intro r18 h17 H
              have J169 : ∀ (v169_0 : Int32), v169_0 = ((if r18 = 59 then 1 else 0) : Int32) → Rn wM G 5 q_M_readHall 177 [some (.ref 0), some (.int x1), some (.int x2), some (.int r6)] [.int v169_0] h17 (rI F) := by
                rintro _ rfl
                have J184 : ∀ (v184_0 : Int32), v184_0 = ((if ((if r18 = 59 then 1 else 0) : Int32) = 0 then 0 else 1) : Int32) → Rn wM G 5 q_M_readHall 192 [some (.ref 0), some (.int x1), some (.int ((if r18 = 59 then 1 else 0) : Int32)), some (.int r6)] [.int v184_0, .int (h17.1 0 3), .ref 0] h17 (rI F) := by
                  rintro _ rfl
                  refine r_iadd d_M_readHall_192 ?_
                  refine r_putI (b := 0) d_M_readHall_193 fp_M_93 ⟨rfl, rfl⟩ (by decide) rfl rfl ?_
                  refine r_goto (tgt := 44) d_M_readHall_196 (by decide) ?_
                  exact rx_fgt [false, false, false, true] H
                refine r_istore_n (i := 2) (lz := [some (.ref 0), some (.int x1), some (.int ((if r18 = 59 then 1 else 0) : Int32)), some (.int r6)]) d_M_readHall_177 rfl (by decide) rfl rfl ?_
                refine r_aload_n (i := 0) d_M_readHall_178 rfl rfl ?_
                refine r_dupr d_M_readHall_179 ?_
                refine r_getI (b := 0) (v := h17.1 0 3) d_M_readHall_180 fl_M_93 (by decide) rfl rfl rfl ?_
                refine r_iload_n (i := 2) d_M_readHall_183 rfl rfl ?_
                refine r_if_eq (tgt := 191) d_M_readHall_184 (by decide) (fun hc_184 => ?_) (fun hc_184 => ?_)
                · refine r_iconst d_M_readHall_191 ic_0 ?_
                  exact J184 _ (((if_pos hc_184).trans rfl)).symm
                · refine r_iconst d_M_readHall_187 ic_1 ?_
                  refine r_goto (tgt := 192) d_M_readHall_188 (by decide) ?_
                  exact J184 _ (((if_neg hc_184).trans rfl)).symm
              refine r_bipush d_M_readHall_167 bp_59 ?_
              refine r_icmp_ne (tgt := 176) d_M_readHall_169 (by decide) (fun hc_169 => ?_) (fun hc_169 => ?_)
              · refine r_iconst d_M_readHall_176 ic_0 ?_
                exact J169 _ (((if_neg hc_169).trans rfl)).symm
              · refine r_iconst d_M_readHall_172 ic_1 ?_
                refine r_goto (tgt := 177) d_M_readHall_173 (by decide) ?_
                exact J169 _ (((if_pos hc_169).trans rfl)).symm
          · replace H := H.2 hc_109
            refine r_aload_n (i := 0) d_M_readHall_112 rfl rfl ?_
            refine r_dupr d_M_readHall_113 ?_
            refine r_getI (b := 0) (v := h5.1 0 3) d_M_readHall_114 fl_M_93 (by decide) rfl rfl rfl ?_
            refine r_iconst d_M_readHall_117 ic_1 ?_
            refine r_iadd d_M_readHall_118 ?_
            refine r_putI (b := 0) d_M_readHall_119 fp_M_93 ⟨rfl, rfl⟩ (by decide) rfl rfl ?_
            refine r_aload_n (i := 0) d_M_readHall_122 rfl rfl ?_
            refine r_iload_n (i := 3) d_M_readHall_123 rfl rfl ?_
            refine r_aload_n (i := 0) d_M_readHall_124 rfl rfl ?_
            refine r_getR (b := 0) (r := 12) d_M_readHall_125 fl_M_43 (by decide) rfl rfl rfl ?_
            refine r_iconst d_M_readHall_128 ic_3 ?_
            refine r_aload_n (i := 0) d_M_readHall_129 rfl rfl ?_
            refine r_getI (b := 0) (v := h5.1 0 19) d_M_readHall_130 fl_M_219 (by decide) rfl rfl rfl ?_
            refine r_imul d_M_readHall_133 ?_
            refine r_iconst d_M_readHall_134 ic_3 ?_
            refine rc_VV (b := 0) (d' := 4) [.int r6, .ref 12, .int (3 * (h5.1 0 19)), .int 3] [] d_M_readHall_135 ml_M_222 rfl rfl (by decide) (by decide) rfl rfl (Nat.le_of_ble_eq_true rfl) H ?_
            intro h19 H
            refine r_aload_n (i := 0) d_M_readHall_138 rfl rfl ?_
            refine r_dupr d_M_readHall_139 ?_
            refine r_getI (b := 0) (v := h19.1 0 19) d_M_readHall_140 fl_M_219 (by decide) rfl rfl rfl ?_
            refine r_iconst d_M_readHall_143 ic_1 ?_
            refine r_iadd d_M_readHall_144 ?_
            refine r_putI (b := 0) d_M_readHall_145 fp_M_219 ⟨rfl, rfl⟩ (by decide) rfl rfl ?_
            refine r_goto (tgt := 155) d_M_readHall_148 (by decide) ?_
            refine r_aload_n (i := 0) d_M_readHall_155 rfl rfl ?_
            refine r_getI (b := 0) (v := h19.1 0 4) d_M_readHall_156 fl_M_100 (by decide) rfl rfl rfl ?_
            refine r_iconst d_M_readHall_159 ic_m1 ?_
            refine r_icmp_ne (tgt := 176) d_M_readHall_160 (by decide) (fun hc_160 => ?_) (fun hc_160 => ?_)
            · replace H := H.2 hc_160
              refine r_iconst d_M_readHall_176 ic_0 ?_
              refine r_istore_n (i := 2) (lz := [some (.ref 0), some (.int x1), some (.int 0), some (.int r6)]) d_M_readHall_177 rfl (by decide) rfl rfl ?_
              refine r_aload_n (i := 0) d_M_readHall_178 rfl rfl ?_
              refine r_dupr d_M_readHall_179 ?_
              refine r_getI (b := 0) (v := h19.1 0 3) d_M_readHall_180 fl_M_93 (by decide) rfl rfl rfl ?_
              refine r_iload_n (i := 2) d_M_readHall_183 rfl rfl ?_
              refine r_if_eq (tgt := 191) d_M_readHall_184 (by decide) (fun _ => ?_) (fun h => absurd (by decide) h)
              refine r_iconst d_M_readHall_191 ic_0 ?_
              refine r_iadd d_M_readHall_192 ?_
              refine r_putI (b := 0) d_M_readHall_193 fp_M_93 ⟨rfl, rfl⟩ (by decide) rfl rfl ?_
              refine r_goto (tgt := 44) d_M_readHall_196 (by decide) ?_
              exact rx_fgt [false, false, false, true] H
            · replace H := H.1 hc_160
              refine r_aload_n (i := 0) d_M_readHall_163 rfl rfl ?_
              refine rc_VI (b := 0) (d' := 2) [] [] d_M_readHall_164 ml_M_112 rfl rfl (by decide) (by decide) rfl rfl (Nat.le_of_ble_eq_true rfl) H ?_
              intro r21 h20 H
              have J169 : ∀ (v169_0 : Int32), v169_0 = ((if r21 = 59 then 1 else 0) : Int32) → Rn wM G 5 q_M_readHall 177 [some (.ref 0), some (.int x1), some (.int x2), some (.int r6)] [.int v169_0] h20 (rI F) := by
                rintro _ rfl
                have J184 : ∀ (v184_0 : Int32), v184_0 = ((if ((if r21 = 59 then 1 else 0) : Int32) = 0 then 0 else 1) : Int32) → Rn wM G 5 q_M_readHall 192 [some (.ref 0), some (.int x1), some (.int ((if r21 = 59 then 1 else 0) : Int32)), some (.int r6)] [.int v184_0, .int (h20.1 0 3), .ref 0] h20 (rI F) := by
                  rintro _ rfl
                  refine r_iadd d_M_readHall_192 ?_
                  refine r_putI (b := 0) d_M_readHall_193 fp_M_93 ⟨rfl, rfl⟩ (by decide) rfl rfl ?_
                  refine r_goto (tgt := 44) d_M_readHall_196 (by decide) ?_
                  exact rx_fgt [false, false, false, true] H
                refine r_istore_n (i := 2) (lz := [some (.ref 0), some (.int x1), some (.int ((if r21 = 59 then 1 else 0) : Int32)), some (.int r6)]) d_M_readHall_177 rfl (by decide) rfl rfl ?_
                refine r_aload_n (i := 0) d_M_readHall_178 rfl rfl ?_
                refine r_dupr d_M_readHall_179 ?_
                refine r_getI (b := 0) (v := h20.1 0 3) d_M_readHall_180 fl_M_93 (by decide) rfl rfl rfl ?_
                refine r_iload_n (i := 2) d_M_readHall_183 rfl rfl ?_
                refine r_if_eq (tgt := 191) d_M_readHall_184 (by decide) (fun hc_184 => ?_) (fun hc_184 => ?_)
                · refine r_iconst d_M_readHall_191 ic_0 ?_
                  exact J184 _ (((if_pos hc_184).trans rfl)).symm
                · refine r_iconst d_M_readHall_187 ic_1 ?_
                  refine r_goto (tgt := 192) d_M_readHall_188 (by decide) ?_
                  exact J184 _ (((if_neg hc_184).trans rfl)).symm
              refine r_bipush d_M_readHall_167 bp_59 ?_
              refine r_icmp_ne (tgt := 176) d_M_readHall_169 (by decide) (fun hc_169 => ?_) (fun hc_169 => ?_)
              · refine r_iconst d_M_readHall_176 ic_0 ?_
                exact J169 _ (((if_neg hc_169).trans rfl)).symm
              · refine r_iconst d_M_readHall_172 ic_1 ?_
                refine r_goto (tgt := 177) d_M_readHall_173 (by decide) ?_
                exact J169 _ (((if_pos hc_169).trans rfl)).symm
      · replace H := H.1 hc_64
        refine r_iload_n (i := 1) d_M_readHall_67 rfl rfl ?_
        refine r_if_ne (tgt := 97) d_M_readHall_68 (by decide) (fun hc_68 => ?_) (fun hc_68 => ?_)
        · replace H := H.2 hc_68
          refine r_iload_n (i := 3) d_M_readHall_97 rfl rfl ?_
          refine r_bipush d_M_readHall_98 bp_98 ?_
          refine r_icmp_ne (tgt := 151) d_M_readHall_100 (by decide) (fun hc_100 => ?_) (fun hc_100 => ?_)
          · replace H := H.2 hc_100
            refine r_aload_n (i := 0) d_M_readHall_151 rfl rfl ?_
            refine rk_VV (b := 0) (d' := 1) [] [] d_M_readHall_152 ml_M_109 rfl rfl (by decide) (by decide) rfl rfl (Nat.le_of_ble_eq_true rfl) (s_M_bad  ?_)
            refine r_aload_n (i := 0) d_M_readHall_155 rfl rfl ?_
            refine r_getI (b := 0) (v := (g_M_bad h5).1 0 4) d_M_readHall_156 fl_M_100 (by decide) rfl rfl rfl ?_
            refine r_iconst d_M_readHall_159 ic_m1 ?_
            refine r_icmp_ne (tgt := 176) d_M_readHall_160 (by decide) (fun hc_160 => ?_) (fun hc_160 => ?_)
            · replace H := H.2 hc_160
              refine r_iconst d_M_readHall_176 ic_0 ?_
              refine r_istore_n (i := 2) (lz := [some (.ref 0), some (.int x1), some (.int 0), some (.int r6)]) d_M_readHall_177 rfl (by decide) rfl rfl ?_
              refine r_aload_n (i := 0) d_M_readHall_178 rfl rfl ?_
              refine r_dupr d_M_readHall_179 ?_
              refine r_getI (b := 0) (v := (g_M_bad h5).1 0 3) d_M_readHall_180 fl_M_93 (by decide) rfl rfl rfl ?_
              refine r_iload_n (i := 2) d_M_readHall_183 rfl rfl ?_
              refine r_if_eq (tgt := 191) d_M_readHall_184 (by decide) (fun _ => ?_) (fun h => absurd (by decide) h)
              refine r_iconst d_M_readHall_191 ic_0 ?_
              refine r_iadd d_M_readHall_192 ?_
              refine r_putI (b := 0) d_M_readHall_193 fp_M_93 ⟨rfl, rfl⟩ (by decide) rfl rfl ?_
              refine r_goto (tgt := 44) d_M_readHall_196 (by decide) ?_
              exact rx_fgt [false, false, false, true] H
            · replace H := H.1 hc_160
              refine r_aload_n (i := 0) d_M_readHall_163 rfl rfl ?_
              refine rc_VI (b := 0) (d' := 2) [] [] d_M_readHall_164 ml_M_112 rfl rfl (by decide) (by decide) rfl rfl (Nat.le_of_ble_eq_true rfl) H ?_
              intro r16 h15 H
              have J169 : ∀ (v169_0 : Int32), v169_0 = ((if r16 = 59 then 1 else 0) : Int32) → Rn wM G 5 q_M_readHall 177 [some (.ref 0), some (.int x1), some (.int x2), some (.int r6)] [.int v169_0] h15 (rI F) := by
                rintro _ rfl
                have J184 : ∀ (v184_0 : Int32), v184_0 = ((if ((if r16 = 59 then 1 else 0) : Int32) = 0 then 0 else 1) : Int32) → Rn wM G 5 q_M_readHall 192 [some (.ref 0), some (.int x1), some (.int ((if r16 = 59 then 1 else 0) : Int32)), some (.int r6)] [.int v184_0, .int (h15.1 0 3), .ref 0] h15 (rI F) := by
                  rintro _ rfl
                  refine r_iadd d_M_readHall_192 ?_
                  refine r_putI (b := 0) d_M_readHall_193 fp_M_93 ⟨rfl, rfl⟩ (by decide) rfl rfl ?_
                  refine r_goto (tgt := 44) d_M_readHall_196 (by decide) ?_
                  exact rx_fgt [false, false, false, true] H
                refine r_istore_n (i := 2) (lz := [some (.ref 0), some (.int x1), some (.int ((if r16 = 59 then 1 else 0) : Int32)), some (.int r6)]) d_M_readHall_177 rfl (by decide) rfl rfl ?_
                refine r_aload_n (i := 0) d_M_readHall_178 rfl rfl ?_
                refine r_dupr d_M_readHall_179 ?_
                refine r_getI (b := 0) (v := h15.1 0 3) d_M_readHall_180 fl_M_93 (by decide) rfl rfl rfl ?_
                refine r_iload_n (i := 2) d_M_readHall_183 rfl rfl ?_
                refine r_if_eq (tgt := 191) d_M_readHall_184 (by decide) (fun hc_184 => ?_) (fun hc_184 => ?_)
                · refine r_iconst d_M_readHall_191 ic_0 ?_
                  exact J184 _ (((if_pos hc_184).trans rfl)).symm
                · refine r_iconst d_M_readHall_187 ic_1 ?_
                  refine r_goto (tgt := 192) d_M_readHall_188 (by decide) ?_
                  exact J184 _ (((if_neg hc_184).trans rfl)).symm
              refine r_bipush d_M_readHall_167 bp_59 ?_
              refine r_icmp_ne (tgt := 176) d_M_readHall_169 (by decide) (fun hc_169 => ?_) (fun hc_169 => ?_)
              · refine r_iconst d_M_readHall_176 ic_0 ?_
                exact J169 _ (((if_neg hc_169).trans rfl)).symm
              · refine r_iconst d_M_readHall_172 ic_1 ?_
                refine r_goto (tgt := 177) d_M_readHall_173 (by decide) ?_
                exact J169 _ (((if_pos hc_169).trans rfl)).symm
          · replace H := H.1 hc_100
            refine r_aload_n (i := 0) d_M_readHall_103 rfl rfl ?_
            refine r_getI (b := 0) (v := h5.1 0 19) d_M_readHall_104 fl_M_219 (by decide) rfl rfl rfl ?_
            refine r_bipush d_M_readHall_107 bp_6 ?_
            refine r_icmp_ge (tgt := 151) d_M_readHall_109 (by decide) (fun hc_109 => ?_) (fun hc_109 => ?_)
            · replace H := H.1 hc_109
              refine r_aload_n (i := 0) d_M_readHall_151 rfl rfl ?_
              refine rk_VV (b := 0) (d' := 1) [] [] d_M_readHall_152 ml_M_109 rfl rfl (by decide) (by decide) rfl rfl (Nat.le_of_ble_eq_true rfl) (s_M_bad  ?_)
              refine r_aload_n (i := 0) d_M_readHall_155 rfl rfl ?_
              refine r_getI (b := 0) (v := (g_M_bad h5).1 0 4) d_M_readHall_156 fl_M_100 (by decide) rfl rfl rfl ?_
              refine r_iconst d_M_readHall_159 ic_m1 ?_
              refine r_icmp_ne (tgt := 176) d_M_readHall_160 (by decide) (fun hc_160 => ?_) (fun hc_160 => ?_)
              · replace H := H.2 hc_160
                refine r_iconst d_M_readHall_176 ic_0 ?_
                refine r_istore_n (i := 2) (lz := [some (.ref 0), some (.int x1), some (.int 0), some (.int r6)]) d_M_readHall_177 rfl (by decide) rfl rfl ?_
                refine r_aload_n (i := 0) d_M_readHall_178 rfl rfl ?_
                refine r_dupr d_M_readHall_179 ?_
                refine r_getI (b := 0) (v := (g_M_bad h5).1 0 3) d_M_readHall_180 fl_M_93 (by decide) rfl rfl rfl ?_
                refine r_iload_n (i := 2) d_M_readHall_183 rfl rfl ?_
                refine r_if_eq (tgt := 191) d_M_readHall_184 (by decide) (fun _ => ?_) (fun h => absurd (by decide) h)
                refine r_iconst d_M_readHall_191 ic_0 ?_
                refine r_iadd d_M_readHall_192 ?_
                refine r_putI (b := 0) d_M_readHall_193 fp_M_93 ⟨rfl, rfl⟩ (by decide) rfl rfl ?_
                refine r_goto (tgt := 44) d_M_readHall_196 (by decide) ?_
                exact rx_fgt [false, false, false, true] H
              · replace H := H.1 hc_160
                refine r_aload_n (i := 0) d_M_readHall_163 rfl rfl ?_
                refine rc_VI (b := 0) (d' := 2) [] [] d_M_readHall_164 ml_M_112 rfl rfl (by decide) (by decide) rfl rfl (Nat.le_of_ble_eq_true rfl) H ?_
                intro r11 h10 H
                have J169 : ∀ (v169_0 : Int32), v169_0 = ((if r11 = 59 then 1 else 0) : Int32) → Rn wM G 5 q_M_readHall 177 [some (.ref 0), some (.int x1), some (.int x2), some (.int r6)] [.int v169_0] h10 (rI F) := by
                  rintro _ rfl
                  have J184 : ∀ (v184_0 : Int32), v184_0 = ((if ((if r11 = 59 then 1 else 0) : Int32) = 0 then 0 else 1) : Int32) → Rn wM G 5 q_M_readHall 192 [some (.ref 0), some (.int x1), some (.int ((if r11 = 59 then 1 else 0) : Int32)), some (.int r6)] [.int v184_0, .int (h10.1 0 3), .ref 0] h10 (rI F) := by
                    rintro _ rfl
                    refine r_iadd d_M_readHall_192 ?_
                    refine r_putI (b := 0) d_M_readHall_193 fp_M_93 ⟨rfl, rfl⟩ (by decide) rfl rfl ?_
                    refine r_goto (tgt := 44) d_M_readHall_196 (by decide) ?_
                    exact rx_fgt [false, false, false, true] H
                  refine r_istore_n (i := 2) (lz := [some (.ref 0), some (.int x1), some (.int ((if r11 = 59 then 1 else 0) : Int32)), some (.int r6)]) d_M_readHall_177 rfl (by decide) rfl rfl ?_
                  refine r_aload_n (i := 0) d_M_readHall_178 rfl rfl ?_
                  refine r_dupr d_M_readHall_179 ?_
                  refine r_getI (b := 0) (v := h10.1 0 3) d_M_readHall_180 fl_M_93 (by decide) rfl rfl rfl ?_
                  refine r_iload_n (i := 2) d_M_readHall_183 rfl rfl ?_
                  refine r_if_eq (tgt := 191) d_M_readHall_184 (by decide) (fun hc_184 => ?_) (fun hc_184 => ?_)
                  · refine r_iconst d_M_readHall_191 ic_0 ?_
                    exact J184 _ (((if_pos hc_184).trans rfl)).symm
                  · refine r_iconst d_M_readHall_187 ic_1 ?_
                    refine r_goto (tgt := 192) d_M_readHall_188 (by decide) ?_
                    exact J184 _ (((if_neg hc_184).trans rfl)).symm
                refine r_bipush d_M_readHall_167 bp_59 ?_
                refine r_icmp_ne (tgt := 176) d_M_readHall_169 (by decide) (fun hc_169 => ?_) (fun hc_169 => ?_)
                · refine r_iconst d_M_readHall_176 ic_0 ?_
                  exact J169 _ (((if_neg hc_169).trans rfl)).symm
                · refine r_iconst d_M_readHall_172 ic_1 ?_
                  refine r_goto (tgt := 177) d_M_readHall_173 (by decide) ?_
                  exact J169 _ (((if_pos hc_169).trans rfl)).symm
            · replace H := H.2 hc_109
              refine r_aload_n (i := 0) d_M_readHall_112 rfl rfl ?_
              refine r_dupr d_M_readHall_113 ?_
              refine r_getI (b := 0) (v := h5.1 0 3) d_M_readHall_114 fl_M_93 (by decide) rfl rfl rfl ?_
              refine r_iconst d_M_readHall_117 ic_1 ?_
              refine r_iadd d_M_readHall_118 ?_
              refine r_putI (b := 0) d_M_readHall_119 fp_M_93 ⟨rfl, rfl⟩ (by decide) rfl rfl ?_
              refine r_aload_n (i := 0) d_M_readHall_122 rfl rfl ?_
              refine r_iload_n (i := 3) d_M_readHall_123 rfl rfl ?_
              refine r_aload_n (i := 0) d_M_readHall_124 rfl rfl ?_
              refine r_getR (b := 0) (r := 12) d_M_readHall_125 fl_M_43 (by decide) rfl rfl rfl ?_
              refine r_iconst d_M_readHall_128 ic_3 ?_
              refine r_aload_n (i := 0) d_M_readHall_129 rfl rfl ?_
              refine r_getI (b := 0) (v := h5.1 0 19) d_M_readHall_130 fl_M_219 (by decide) rfl rfl rfl ?_
              refine r_imul d_M_readHall_133 ?_
              refine r_iconst d_M_readHall_134 ic_3 ?_
              refine rc_VV (b := 0) (d' := 4) [.int r6, .ref 12, .int (3 * (h5.1 0 19)), .int 3] [] d_M_readHall_135 ml_M_222 rfl rfl (by decide) (by decide) rfl rfl (Nat.le_of_ble_eq_true rfl) H ?_
              intro h12 H
              refine r_aload_n (i := 0) d_M_readHall_138 rfl rfl ?_
              refine r_dupr d_M_readHall_139 ?_
              refine r_getI (b := 0) (v := h12.1 0 19) d_M_readHall_140 fl_M_219 (by decide) rfl rfl rfl ?_
              refine r_iconst d_M_readHall_143 ic_1 ?_
              refine r_iadd d_M_readHall_144 ?_
              refine r_putI (b := 0) d_M_readHall_145 fp_M_219 ⟨rfl, rfl⟩ (by decide) rfl rfl ?_
              refine r_goto (tgt := 155) d_M_readHall_148 (by decide) ?_
              refine r_aload_n (i := 0) d_M_readHall_155 rfl rfl ?_
              refine r_getI (b := 0) (v := h12.1 0 4) d_M_readHall_156 fl_M_100 (by decide) rfl rfl rfl ?_
              refine r_iconst d_M_readHall_159 ic_m1 ?_
              refine r_icmp_ne (tgt := 176) d_M_readHall_160 (by decide) (fun hc_160 => ?_) (fun hc_160 => ?_)
              · replace H := H.2 hc_160
                refine r_iconst d_M_readHall_176 ic_0 ?_
                refine r_istore_n (i := 2) (lz := [some (.ref 0), some (.int x1), some (.int 0), some (.int r6)]) d_M_readHall_177 rfl (by decide) rfl rfl ?_
                refine r_aload_n (i := 0) d_M_readHall_178 rfl rfl ?_
                refine r_dupr d_M_readHall_179 ?_
                refine r_getI (b := 0) (v := h12.1 0 3) d_M_readHall_180 fl_M_93 (by decide) rfl rfl rfl ?_
                refine r_iload_n (i := 2) d_M_readHall_183 rfl rfl ?_
                refine r_if_eq (tgt := 191) d_M_readHall_184 (by decide) (fun _ => ?_) (fun h => absurd (by decide) h)
                refine r_iconst d_M_readHall_191 ic_0 ?_
                refine r_iadd d_M_readHall_192 ?_
                refine r_putI (b := 0) d_M_readHall_193 fp_M_93 ⟨rfl, rfl⟩ (by decide) rfl rfl ?_
                refine r_goto (tgt := 44) d_M_readHall_196 (by decide) ?_
                exact rx_fgt [false, false, false, true] H
              · replace H := H.1 hc_160
                refine r_aload_n (i := 0) d_M_readHall_163 rfl rfl ?_
                refine rc_VI (b := 0) (d' := 2) [] [] d_M_readHall_164 ml_M_112 rfl rfl (by decide) (by decide) rfl rfl (Nat.le_of_ble_eq_true rfl) H ?_
                intro r14 h13 H
                have J169 : ∀ (v169_0 : Int32), v169_0 = ((if r14 = 59 then 1 else 0) : Int32) → Rn wM G 5 q_M_readHall 177 [some (.ref 0), some (.int x1), some (.int x2), some (.int r6)] [.int v169_0] h13 (rI F) := by
                  rintro _ rfl
                  have J184 : ∀ (v184_0 : Int32), v184_0 = ((if ((if r14 = 59 then 1 else 0) : Int32) = 0 then 0 else 1) : Int32) → Rn wM G 5 q_M_readHall 192 [some (.ref 0), some (.int x1), some (.int ((if r14 = 59 then 1 else 0) : Int32)), some (.int r6)] [.int v184_0, .int (h13.1 0 3), .ref 0] h13 (rI F) := by
                    rintro _ rfl
                    refine r_iadd d_M_readHall_192 ?_
                    refine r_putI (b := 0) d_M_readHall_193 fp_M_93 ⟨rfl, rfl⟩ (by decide) rfl rfl ?_
                    refine r_goto (tgt := 44) d_M_readHall_196 (by decide) ?_
                    exact rx_fgt [false, false, false, true] H
                  refine r_istore_n (i := 2) (lz := [some (.ref 0), some (.int x1), some (.int ((if r14 = 59 then 1 else 0) : Int32)), some (.int r6)]) d_M_readHall_177 rfl (by decide) rfl rfl ?_
                  refine r_aload_n (i := 0) d_M_readHall_178 rfl rfl ?_
                  refine r_dupr d_M_readHall_179 ?_
                  refine r_getI (b := 0) (v := h13.1 0 3) d_M_readHall_180 fl_M_93 (by decide) rfl rfl rfl ?_
                  refine r_iload_n (i := 2) d_M_readHall_183 rfl rfl ?_
                  refine r_if_eq (tgt := 191) d_M_readHall_184 (by decide) (fun hc_184 => ?_) (fun hc_184 => ?_)
                  · refine r_iconst d_M_readHall_191 ic_0 ?_
                    exact J184 _ (((if_pos hc_184).trans rfl)).symm
                  · refine r_iconst d_M_readHall_187 ic_1 ?_
                    refine r_goto (tgt := 192) d_M_readHall_188 (by decide) ?_
                    exact J184 _ (((if_neg hc_184).trans rfl)).symm
                refine r_bipush d_M_readHall_167 bp_59 ?_
                refine r_icmp_ne (tgt := 176) d_M_readHall_169 (by decide) (fun hc_169 => ?_) (fun hc_169 => ?_)
                · refine r_iconst d_M_readHall_176 ic_0 ?_
                  exact J169 _ (((if_neg hc_169).trans rfl)).symm
                · refine r_iconst d_M_readHall_172 ic_1 ?_
                  refine r_goto (tgt := 177) d_M_readHall_173 (by decide) ?_
                  exact J169 _ (((if_pos hc_169).trans rfl)).symm
        · replace H := H.1 hc_68
          refine r_iconst d_M_readHall_71 ic_1 ?_
          refine r_istore_n (i := 1) (lz := [some (.ref 0), some (.int 1), some (.int x2), some (.int r6)]) d_M_readHall_72 rfl (by decide) rfl rfl ?_
          refine r_aload_n (i := 0) d_M_readHall_73 rfl rfl ?_
          refine r_dupr d_M_readHall_74 ?_
          refine r_getI (b := 0) (v := h5.1 0 3) d_M_readHall_75 fl_M_93 (by decide) rfl rfl rfl ?_
          refine r_iconst d_M_readHall_78 ic_1 ?_
          refine r_iadd d_M_readHall_79 ?_
          refine r_putI (b := 0) d_M_readHall_80 fp_M_93 ⟨rfl, rfl⟩ (by decide) rfl rfl ?_
          refine r_aload_n (i := 0) d_M_readHall_83 rfl rfl ?_
          refine r_iload_n (i := 3) d_M_readHall_84 rfl rfl ?_
          refine r_aload_n (i := 0) d_M_readHall_85 rfl rfl ?_
          refine r_getR (b := 0) (r := 11) d_M_readHall_86 fl_M_40 (by decide) rfl rfl rfl ?_
          refine r_iconst d_M_readHall_89 ic_0 ?_
          refine r_iconst d_M_readHall_90 ic_4 ?_
          refine rc_VV (b := 0) (d' := 4) [.int r6, .ref 11, .int 0, .int 4] [] d_M_readHall_91 ml_M_222 rfl rfl (by decide) (by decide) rfl rfl (Nat.le_of_ble_eq_true rfl) H ?_
          intro h7 H
          refine r_goto (tgt := 155) d_M_readHall_94 (by decide) ?_
          refine r_aload_n (i := 0) d_M_readHall_155 rfl rfl ?_
          refine r_getI (b := 0) (v := h7.1 0 4) d_M_readHall_156 fl_M_100 (by decide) rfl rfl rfl ?_
          refine r_iconst d_M_readHall_159 ic_m1 ?_
          refine r_icmp_ne (tgt := 176) d_M_readHall_160 (by decide) (fun hc_160 => ?_) (fun hc_160 => ?_)
          · replace H := H.2 hc_160
            refine r_iconst d_M_readHall_176 ic_0 ?_
            refine r_istore_n (i := 2) (lz := [some (.ref 0), some (.int 1), some (.int 0), some (.int r6)]) d_M_readHall_177 rfl (by decide) rfl rfl ?_
            refine r_aload_n (i := 0) d_M_readHall_178 rfl rfl ?_
            refine r_dupr d_M_readHall_179 ?_
            refine r_getI (b := 0) (v := h7.1 0 3) d_M_readHall_180 fl_M_93 (by decide) rfl rfl rfl ?_
            refine r_iload_n (i := 2) d_M_readHall_183 rfl rfl ?_
            refine r_if_eq (tgt := 191) d_M_readHall_184 (by decide) (fun _ => ?_) (fun h => absurd (by decide) h)
            refine r_iconst d_M_readHall_191 ic_0 ?_
            refine r_iadd d_M_readHall_192 ?_
            refine r_putI (b := 0) d_M_readHall_193 fp_M_93 ⟨rfl, rfl⟩ (by decide) rfl rfl ?_
            refine r_goto (tgt := 44) d_M_readHall_196 (by decide) ?_
            exact rx_fgt [false, false, false, true] H
          · replace H := H.1 hc_160
            refine r_aload_n (i := 0) d_M_readHall_163 rfl rfl ?_
            refine rc_VI (b := 0) (d' := 2) [] [] d_M_readHall_164 ml_M_112 rfl rfl (by decide) (by decide) rfl rfl (Nat.le_of_ble_eq_true rfl) H ?_
            intro r9 h8 H
            have J169 : ∀ (v169_0 : Int32), v169_0 = ((if r9 = 59 then 1 else 0) : Int32) → Rn wM G 5 q_M_readHall 177 [some (.ref 0), some (.int 1), some (.int x2), some (.int r6)] [.int v169_0] h8 (rI F) := by
              rintro _ rfl
              have J184 : ∀ (v184_0 : Int32), v184_0 = ((if ((if r9 = 59 then 1 else 0) : Int32) = 0 then 0 else 1) : Int32) → Rn wM G 5 q_M_readHall 192 [some (.ref 0), some (.int 1), some (.int ((if r9 = 59 then 1 else 0) : Int32)), some (.int r6)] [.int v184_0, .int (h8.1 0 3), .ref 0] h8 (rI F) := by
                rintro _ rfl
                refine r_iadd d_M_readHall_192 ?_
                refine r_putI (b := 0) d_M_readHall_193 fp_M_93 ⟨rfl, rfl⟩ (by decide) rfl rfl ?_
                refine r_goto (tgt := 44) d_M_readHall_196 (by decide) ?_
                exact rx_fgt [false, false, false, true] H
              refine r_istore_n (i := 2) (lz := [some (.ref 0), some (.int 1), some (.int ((if r9 = 59 then 1 else 0) : Int32)), some (.int r6)]) d_M_readHall_177 rfl (by decide) rfl rfl ?_
              refine r_aload_n (i := 0) d_M_readHall_178 rfl rfl ?_
              refine r_dupr d_M_readHall_179 ?_
              refine r_getI (b := 0) (v := h8.1 0 3) d_M_readHall_180 fl_M_93 (by decide) rfl rfl rfl ?_
              refine r_iload_n (i := 2) d_M_readHall_183 rfl rfl ?_
              refine r_if_eq (tgt := 191) d_M_readHall_184 (by decide) (fun hc_184 => ?_) (fun hc_184 => ?_)
              · refine r_iconst d_M_readHall_191 ic_0 ?_
                exact J184 _ (((if_pos hc_184).trans rfl)).symm
              · refine r_iconst d_M_readHall_187 ic_1 ?_
                refine r_goto (tgt := 192) d_M_readHall_188 (by decide) ?_
                exact J184 _ (((if_neg hc_184).trans rfl)).symm
            refine r_bipush d_M_readHall_167 bp_59 ?_
            refine r_icmp_ne (tgt := 176) d_M_readHall_169 (by decide) (fun hc_169 => ?_) (fun hc_169 => ?_)
            · refine r_iconst d_M_readHall_176 ic_0 ?_
              exact J169 _ (((if_neg hc_169).trans rfl)).symm
            · refine r_iconst d_M_readHall_172 ic_1 ?_
              refine r_goto (tgt := 177) d_M_readHall_173 (by decide) ?_
              exact J169 _ (((if_pos hc_169).trans rfl)).symm

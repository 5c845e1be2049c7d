theorem d_M_closes_0 : decode q_M_closes.2.1 0 = .ok (.aload_n 0, 1) := by decide +kernel
theorem d_M_closes_1 : decode q_M_closes.2.1 1 = .ok (.getfield 100, 3) := by decide +kernel
theorem d_M_closes_4 : decode q_M_closes.2.1 4 = .ok (.iconst (-1), 1) := by decide +kernel
theorem d_M_closes_5 : decode q_M_closes.2.1 5 = .ok (.if_icmp .ne 15, 3) := by decide +kernel
theorem d_M_closes_8 : decode q_M_closes.2.1 8 = .ok (.aload_n 0, 1) := by decide +kernel
theorem d_M_closes_9 : decode q_M_closes.2.1 9 = .ok (.invokevirtual 112, 3) := by decide +kernel
theorem d_M_closes_12 : decode q_M_closes.2.1 12 = .ok (.iload_n 1, 1) := by decide +kernel
theorem d_M_closes_13 : decode q_M_closes.2.1 13 = .ok (.if_icmp .eq 7, 3) := by decide +kernel
theorem d_M_closes_16 : decode q_M_closes.2.1 16 = .ok (.aload_n 0, 1) := by decide +kernel
theorem d_M_closes_20 : decode q_M_closes.2.1 20 = .ok (.aload_n 0, 1) := by decide +kernel
theorem d_M_closes_21 : decode q_M_closes.2.1 21 = .ok (.dup, 1) := by decide +kernel
theorem d_M_closes_22 : decode q_M_closes.2.1 22 = .ok (.getfield 93, 3) := by decide +kernel
theorem d_M_closes_25 : decode q_M_closes.2.1 25 = .ok (.iconst 1, 1) := by decide +kernel
theorem d_M_closes_26 : decode q_M_closes.2.1 26 = .ok (.iadd, 1) := by decide +kernel
theorem d_M_closes_27 : decode q_M_closes.2.1 27 = .ok (.putfield 93, 3) := by decide +kernel
theorem d_M_closes_30 : decode q_M_closes.2.1 30 = .ok (.aload_n 0, 1) := by decide +kernel
theorem d_M_closes_31 : decode q_M_closes.2.1 31 = .ok (.dup, 1) := by decide +kernel
theorem d_M_closes_32 : decode q_M_closes.2.1 32 = .ok (.getfield 106, 3) := by decide +kernel
theorem d_M_closes_35 : decode q_M_closes.2.1 35 = .ok (.iconst 1, 1) := by decide +kernel
theorem d_M_closes_36 : decode q_M_closes.2.1 36 = .ok (.isub, 1) := by decide +kernel
theorem d_M_closes_37 : decode q_M_closes.2.1 37 = .ok (.putfield 106, 3) := by decide +kernel
theorem d_M_closes_40 : decode q_M_closes.2.1 40 = .ok (.return_, 1) := by decide +kernel
theorem d_M_closes_17 : decode q_M_closes.2.1 17 = .ok (.invokevirtual 109, 3) := by decide +kernel
theorem d_M_atom_0 : decode q_M_atom.2.1 0 = .ok (.aload_n 0, 1) := by decide +kernel
theorem d_M_atom_1 : decode q_M_atom.2.1 1 = .ok (.invokevirtual 112, 3) := by decide +kernel
theorem d_M_atom_4 : decode q_M_atom.2.1 4 = .ok (.istore_n 1, 1) := by decide +kernel
theorem d_M_atom_5 : decode q_M_atom.2.1 5 = .ok (.iload_n 1, 1) := by decide +kernel
theorem d_M_atom_6 : decode q_M_atom.2.1 6 = .ok (.invokestatic 115, 3) := by decide +kernel
theorem d_M_atom_9 : decode q_M_atom.2.1 9 = .ok (.ifCond .eq 15, 3) := by decide +kernel
theorem d_M_atom_24 : decode q_M_atom.2.1 24 = .ok (.iload_n 1, 1) := by decide +kernel
theorem d_M_atom_25 : decode q_M_atom.2.1 25 = .ok (.invokestatic 126, 3) := by decide +kernel
theorem ml_M_126 : rx_CS "GlassRoomModel" 126 q_M_letterOf 1 := ⟨⟨(rx_s6 108 rfl rfl), (rx_s6 109 rfl rfl)⟩, ⟨(rx_s1 13 rfl rfl), q_M_letterOf_k, ⟨by decide, by decide, by decide +kernel⟩, by decide⟩⟩
theorem d_M_atom_28 : decode q_M_atom.2.1 28 = .ok (.iconst (-1), 1) := by decide +kernel
theorem d_M_atom_29 : decode q_M_atom.2.1 29 = .ok (.if_icmp .eq 25, 3) := by decide +kernel
theorem d_M_atom_54 : decode q_M_atom.2.1 54 = .ok (.iload_n 1, 1) := by decide +kernel
theorem d_M_atom_55 : decode q_M_atom.2.1 55 = .ok (.bipush 91, 2) := by decide +kernel
theorem d_M_atom_57 : decode q_M_atom.2.1 57 = .ok (.if_icmp .ne 28, 3) := by decide +kernel
theorem d_M_atom_60 : decode q_M_atom.2.1 60 = .ok (.aload_n 0, 1) := by decide +kernel
theorem d_M_atom_61 : decode q_M_atom.2.1 61 = .ok (.invokevirtual 130, 3) := by decide +kernel
theorem ml_M_130 : rx_CV "GlassRoomModel" 130 q_M_opens 0 := ⟨⟨(rx_s6 80 rfl rfl), (rx_s6 82 rfl rfl), (rx_s0 35 rfl rfl)⟩, ⟨(rx_s1 13 rfl rfl), q_M_opens_k, ⟨by decide, by decide, by decide +kernel⟩, by decide⟩⟩
theorem d_M_atom_64 : decode q_M_atom.2.1 64 = .ok (.aload_n 0, 1) := by decide +kernel
theorem d_M_atom_65 : decode q_M_atom.2.1 65 = .ok (.getfield 100, 3) := by decide +kernel
theorem d_M_atom_68 : decode q_M_atom.2.1 68 = .ok (.iconst (-1), 1) := by decide +kernel
theorem d_M_atom_69 : decode q_M_atom.2.1 69 = .ok (.if_icmp .ne 20, 3) := by decide +kernel
theorem d_M_atom_72 : decode q_M_atom.2.1 72 = .ok (.aload_n 0, 1) := by decide +kernel
theorem d_M_atom_73 : decode q_M_atom.2.1 73 = .ok (.invokevirtual 133, 3) := by decide +kernel
theorem ml_M_133 : rx_CV "GlassRoomModel" 133 q_M_sum 0 := ⟨⟨(rx_s6 92 rfl rfl), (rx_s6 94 rfl rfl), (rx_s0 38 rfl rfl)⟩, ⟨(rx_s1 13 rfl rfl), q_M_sum_k, ⟨by decide, by decide, by decide +kernel⟩, by decide⟩⟩
theorem d_M_atom_76 : decode q_M_atom.2.1 76 = .ok (.aload_n 0, 1) := by decide +kernel
theorem d_M_atom_77 : decode q_M_atom.2.1 77 = .ok (.bipush 93, 2) := by decide +kernel
theorem d_M_atom_79 : decode q_M_atom.2.1 79 = .ok (.invokevirtual 136, 3) := by decide +kernel
theorem ml_M_136 : rx_CV "GlassRoomModel" 136 q_M_closes 1 := ⟨⟨(rx_s6 88 rfl rfl), (rx_s6 90 rfl rfl), (rx_s0 37 rfl rfl)⟩, ⟨(rx_s1 13 rfl rfl), q_M_closes_k, ⟨by decide, by decide, by decide +kernel⟩, by decide⟩⟩
theorem d_M_atom_82 : decode q_M_atom.2.1 82 = .ok (.goto 7, 3) := by decide +kernel
theorem d_M_atom_89 : decode q_M_atom.2.1 89 = .ok (.return_, 1) := by decide +kernel
theorem d_M_atom_85 : decode q_M_atom.2.1 85 = .ok (.aload_n 0, 1) := by decide +kernel
theorem d_M_atom_86 : decode q_M_atom.2.1 86 = .ok (.invokevirtual 109, 3) := by decide +kernel
theorem d_M_atom_32 : decode q_M_atom.2.1 32 = .ok (.aload_n 0, 1) := by decide +kernel
theorem d_M_atom_33 : decode q_M_atom.2.1 33 = .ok (.dup, 1) := by decide +kernel
theorem d_M_atom_34 : decode q_M_atom.2.1 34 = .ok (.getfield 93, 3) := by decide +kernel
theorem d_M_atom_37 : decode q_M_atom.2.1 37 = .ok (.iconst 1, 1) := by decide +kernel
theorem d_M_atom_38 : decode q_M_atom.2.1 38 = .ok (.iadd, 1) := by decide +kernel
theorem d_M_atom_39 : decode q_M_atom.2.1 39 = .ok (.putfield 93, 3) := by decide +kernel
theorem d_M_atom_42 : decode q_M_atom.2.1 42 = .ok (.aload_n 0, 1) := by decide +kernel
theorem d_M_atom_43 : decode q_M_atom.2.1 43 = .ok (.iconst 1, 1) := by decide +kernel
theorem d_M_atom_44 : decode q_M_atom.2.1 44 = .ok (.iload_n 1, 1) := by decide +kernel
theorem d_M_atom_45 : decode q_M_atom.2.1 45 = .ok (.invokestatic 126, 3) := by decide +kernel
theorem d_M_atom_48 : decode q_M_atom.2.1 48 = .ok (.invokevirtual 122, 3) := by decide +kernel
theorem ml_M_122 : rx_CV "GlassRoomModel" 122 q_M_put 2 := ⟨⟨(rx_s6 84 rfl rfl), (rx_s6 86 rfl rfl), (rx_s0 36 rfl rfl)⟩, ⟨(rx_s1 13 rfl rfl), q_M_put_k, ⟨by decide, by decide, by decide +kernel⟩, by decide⟩⟩
theorem d_M_atom_51 : decode q_M_atom.2.1 51 = .ok (.goto 38, 3) := by decide +kernel
theorem d_M_atom_12 : decode q_M_atom.2.1 12 = .ok (.aload_n 0, 1) := by decide +kernel
theorem d_M_atom_13 : decode q_M_atom.2.1 13 = .ok (.iconst 0, 1) := by decide +kernel
theorem d_M_atom_14 : decode q_M_atom.2.1 14 = .ok (.aload_n 0, 1) := by decide +kernel
theorem d_M_atom_15 : decode q_M_atom.2.1 15 = .ok (.invokevirtual 119, 3) := by decide +kernel
theorem ml_M_119 : rx_CV "GlassRoomModel" 119 q_M_plainNumber 0 := ⟨⟨(rx_s6 104 rfl rfl), (rx_s6 106 rfl rfl), (rx_s0 41 rfl rfl)⟩, ⟨(rx_s1 13 rfl rfl), q_M_plainNumber_k, ⟨by decide, by decide, by decide +kernel⟩, by decide⟩⟩
theorem d_M_atom_18 : decode q_M_atom.2.1 18 = .ok (.invokevirtual 122, 3) := by decide +kernel
theorem d_M_atom_21 : decode q_M_atom.2.1 21 = .ok (.goto 68, 3) := by decide +kernel
theorem d_M_term_0 : decode q_M_term.2.1 0 = .ok (.aload_n 0, 1) := by decide +kernel
theorem d_M_term_1 : decode q_M_term.2.1 1 = .ok (.invokevirtual 140, 3) := by decide +kernel
theorem ml_M_140 : rx_CV "GlassRoomModel" 140 q_M_atom 0 := ⟨⟨(rx_s6 100 rfl rfl), (rx_s6 102 rfl rfl), (rx_s0 40 rfl rfl)⟩, ⟨(rx_s1 13 rfl rfl), q_M_atom_k, ⟨by decide, by decide, by decide +kernel⟩, by decide⟩⟩
theorem d_M_term_4 : decode q_M_term.2.1 4 = .ok (.aload_n 0, 1) := by decide +kernel
theorem d_M_term_5 : decode q_M_term.2.1 5 = .ok (.getfield 100, 3) := by decide +kernel
theorem d_M_term_8 : decode q_M_term.2.1 8 = .ok (.iconst (-1), 1) := by decide +kernel
theorem d_M_term_9 : decode q_M_term.2.1 9 = .ok (.if_icmp .ne 10, 3) := by decide +kernel
theorem d_M_term_12 : decode q_M_term.2.1 12 = .ok (.aload_n 0, 1) := by decide +kernel
theorem d_M_term_13 : decode q_M_term.2.1 13 = .ok (.invokevirtual 112, 3) := by decide +kernel
theorem d_M_term_16 : decode q_M_term.2.1 16 = .ok (.goto 4, 3) := by decide +kernel
theorem d_M_term_20 : decode q_M_term.2.1 20 = .ok (.istore_n 1, 1) := by decide +kernel
theorem d_M_term_19 : decode q_M_term.2.1 19 = .ok (.iconst (-1), 1) := by decide +kernel
theorem d_M_term_21 : decode q_M_term.2.1 21 = .ok (.iload_n 1, 1) := by decide +kernel
theorem d_M_term_22 : decode q_M_term.2.1 22 = .ok (.bipush 42, 2) := by decide +kernel
theorem d_M_term_24 : decode q_M_term.2.1 24 = .ok (.if_icmp .eq 9, 3) := by decide +kernel
theorem d_M_term_33 : decode q_M_term.2.1 33 = .ok (.aload_n 0, 1) := by decide +kernel
theorem d_M_term_34 : decode q_M_term.2.1 34 = .ok (.dup, 1) := by decide +kernel
theorem d_M_term_35 : decode q_M_term.2.1 35 = .ok (.getfield 93, 3) := by decide +kernel
theorem d_M_term_38 : decode q_M_term.2.1 38 = .ok (.iconst 1, 1) := by decide +kernel
theorem d_M_term_39 : decode q_M_term.2.1 39 = .ok (.iadd, 1) := by decide +kernel
theorem d_M_term_40 : decode q_M_term.2.1 40 = .ok (.putfield 93, 3) := by decide +kernel
theorem d_M_term_43 : decode q_M_term.2.1 43 = .ok (.aload_n 0, 1) := by decide +kernel
theorem d_M_term_44 : decode q_M_term.2.1 44 = .ok (.invokevirtual 140, 3) := by decide +kernel
theorem d_M_term_47 : decode q_M_term.2.1 47 = .ok (.aload_n 0, 1) := by decide +kernel
theorem d_M_term_48 : decode q_M_term.2.1 48 = .ok (.iload_n 1, 1) := by decide +kernel
theorem d_M_term_49 : decode q_M_term.2.1 49 = .ok (.bipush 42, 2) := by decide +kernel
theorem d_M_term_51 : decode q_M_term.2.1 51 = .ok (.if_icmp .ne 7, 3) := by decide +kernel
theorem d_M_term_54 : decode q_M_term.2.1 54 = .ok (.iconst 4, 1) := by decide +kernel
theorem d_M_term_55 : decode q_M_term.2.1 55 = .ok (.goto 4, 3) := by decide +kernel
theorem d_M_term_59 : decode q_M_term.2.1 59 = .ok (.iconst 0, 1) := by decide +kernel
theorem d_M_term_60 : decode q_M_term.2.1 60 = .ok (.invokevirtual 122, 3) := by decide +kernel
theorem d_M_term_63 : decode q_M_term.2.1 63 = .ok (.aload_n 0, 1) := by decide +kernel
theorem d_M_term_64 : decode q_M_term.2.1 64 = .ok (.getfield 100, 3) := by decide +kernel
theorem d_M_term_67 : decode q_M_term.2.1 67 = .ok (.iconst (-1), 1) := by decide +kernel
theorem d_M_term_68 : decode q_M_term.2.1 68 = .ok (.if_icmp .ne 10, 3) := by decide +kernel
theorem d_M_term_71 : decode q_M_term.2.1 71 = .ok (.aload_n 0, 1) := by decide +kernel
theorem d_M_term_72 : decode q_M_term.2.1 72 = .ok (.invokevirtual 112, 3) := by decide +kernel
theorem d_M_term_75 : decode q_M_term.2.1 75 = .ok (.goto 4, 3) := by decide +kernel
theorem d_M_term_79 : decode q_M_term.2.1 79 = .ok (.istore_n 1, 1) := by decide +kernel
theorem d_M_term_80 : decode q_M_term.2.1 80 = .ok (.goto (-59), 3) := by decide +kernel
theorem d_M_term_78 : decode q_M_term.2.1 78 = .ok (.iconst (-1), 1) := by decide +kernel
theorem d_M_term_27 : decode q_M_term.2.1 27 = .ok (.iload_n 1, 1) := by decide +kernel
theorem d_M_term_28 : decode q_M_term.2.1 28 = .ok (.bipush 47, 2) := by decide +kernel
theorem d_M_term_30 : decode q_M_term.2.1 30 = .ok (.if_icmp .ne 53, 3) := by decide +kernel
theorem d_M_term_58 : decode q_M_term.2.1 58 = .ok (.iconst 5, 1) := by decide +kernel
theorem d_M_term_83 : decode q_M_term.2.1 83 = .ok (.return_, 1) := by decide +kernel
theorem d_M_sum_0 : decode q_M_sum.2.1 0 = .ok (.aload_n 0, 1) := by decide +kernel
theorem d_M_sum_1 : decode q_M_sum.2.1 1 = .ok (.invokevirtual 143, 3) := by decide +kernel
theorem ml_M_143 : rx_CV "GlassRoomModel" 143 q_M_term 0 := ⟨⟨(rx_s6 96 rfl rfl), (rx_s6 98 rfl rfl), (rx_s0 39 rfl rfl)⟩, ⟨(rx_s1 13 rfl rfl), q_M_term_k, ⟨by decide, by decide, by decide +kernel⟩, by decide⟩⟩
theorem d_M_sum_4 : decode q_M_sum.2.1 4 = .ok (.aload_n 0, 1) := by decide +kernel
theorem d_M_sum_5 : decode q_M_sum.2.1 5 = .ok (.getfield 100, 3) := by decide +kernel
theorem d_M_sum_8 : decode q_M_sum.2.1 8 = .ok (.iconst (-1), 1) := by decide +kernel
theorem d_M_sum_9 : decode q_M_sum.2.1 9 = .ok (.if_icmp .ne 10, 3) := by decide +kernel
theorem d_M_sum_12 : decode q_M_sum.2.1 12 = .ok (.aload_n 0, 1) := by decide +kernel
theorem d_M_sum_13 : decode q_M_sum.2.1 13 = .ok (.invokevirtual 112, 3) := by decide +kernel
theorem d_M_sum_16 : decode q_M_sum.2.1 16 = .ok (.goto 4, 3) := by decide +kernel
theorem d_M_sum_20 : decode q_M_sum.2.1 20 = .ok (.istore_n 1, 1) := by decide +kernel
theorem d_M_sum_19 : decode q_M_sum.2.1 19 = .ok (.iconst (-1), 1) := by decide +kernel
theorem d_M_sum_21 : decode q_M_sum.2.1 21 = .ok (.iload_n 1, 1) := by decide +kernel
theorem d_M_sum_22 : decode q_M_sum.2.1 22 = .ok (.bipush 43, 2) := by decide +kernel
theorem d_M_sum_24 : decode q_M_sum.2.1 24 = .ok (.if_icmp .eq 9, 3) := by decide +kernel
theorem d_M_sum_33 : decode q_M_sum.2.1 33 = .ok (.aload_n 0, 1) := by decide +kernel
theorem d_M_sum_34 : decode q_M_sum.2.1 34 = .ok (.dup, 1) := by decide +kernel
theorem d_M_sum_35 : decode q_M_sum.2.1 35 = .ok (.getfield 93, 3) := by decide +kernel
theorem d_M_sum_38 : decode q_M_sum.2.1 38 = .ok (.iconst 1, 1) := by decide +kernel
theorem d_M_sum_39 : decode q_M_sum.2.1 39 = .ok (.iadd, 1) := by decide +kernel
theorem d_M_sum_40 : decode q_M_sum.2.1 40 = .ok (.putfield 93, 3) := by decide +kernel
theorem d_M_sum_43 : decode q_M_sum.2.1 43 = .ok (.aload_n 0, 1) := by decide +kernel
theorem d_M_sum_44 : decode q_M_sum.2.1 44 = .ok (.invokevirtual 143, 3) := by decide +kernel
theorem d_M_sum_47 : decode q_M_sum.2.1 47 = .ok (.aload_n 0, 1) := by decide +kernel
theorem d_M_sum_48 : decode q_M_sum.2.1 48 = .ok (.iload_n 1, 1) := by decide +kernel
theorem d_M_sum_49 : decode q_M_sum.2.1 49 = .ok (.bipush 43, 2) := by decide +kernel
theorem d_M_sum_51 : decode q_M_sum.2.1 51 = .ok (.if_icmp .ne 7, 3) := by decide +kernel
theorem d_M_sum_54 : decode q_M_sum.2.1 54 = .ok (.iconst 2, 1) := by decide +kernel
theorem d_M_sum_55 : decode q_M_sum.2.1 55 = .ok (.goto 4, 3) := by decide +kernel
theorem d_M_sum_59 : decode q_M_sum.2.1 59 = .ok (.iconst 0, 1) := by decide +kernel
theorem d_M_sum_60 : decode q_M_sum.2.1 60 = .ok (.invokevirtual 122, 3) := by decide +kernel
theorem d_M_sum_63 : decode q_M_sum.2.1 63 = .ok (.aload_n 0, 1) := by decide +kernel
theorem d_M_sum_64 : decode q_M_sum.2.1 64 = .ok (.getfield 100, 3) := by decide +kernel
theorem d_M_sum_67 : decode q_M_sum.2.1 67 = .ok (.iconst (-1), 1) := by decide +kernel
theorem d_M_sum_68 : decode q_M_sum.2.1 68 = .ok (.if_icmp .ne 10, 3) := by decide +kernel
theorem d_M_sum_71 : decode q_M_sum.2.1 71 = .ok (.aload_n 0, 1) := by decide +kernel
theorem d_M_sum_72 : decode q_M_sum.2.1 72 = .ok (.invokevirtual 112, 3) := by decide +kernel
theorem d_M_sum_75 : decode q_M_sum.2.1 75 = .ok (.goto 4, 3) := by decide +kernel
theorem d_M_sum_79 : decode q_M_sum.2.1 79 = .ok (.istore_n 1, 1) := by decide +kernel
theorem d_M_sum_80 : decode q_M_sum.2.1 80 = .ok (.goto (-59), 3) := by decide +kernel
theorem d_M_sum_78 : decode q_M_sum.2.1 78 = .ok (.iconst (-1), 1) := by decide +kernel
theorem d_M_sum_27 : decode q_M_sum.2.1 27 = .ok (.iload_n 1, 1) := by decide +kernel
theorem d_M_sum_28 : decode q_M_sum.2.1 28 = .ok (.bipush 45, 2) := by decide +kernel
theorem d_M_sum_30 : decode q_M_sum.2.1 30 = .ok (.if_icmp .ne 53, 3) := by decide +kernel
theorem d_M_sum_58 : decode q_M_sum.2.1 58 = .ok (.iconst 3, 1) := by decide +kernel
theorem d_M_sum_83 : decode q_M_sum.2.1 83 = .ok (.return_, 1) := by decide +kernel
theorem d_M_compare_0 : decode q_M_compare.2.1 0 = .ok (.aload_n 0, 1) := by decide +kernel
theorem d_M_compare_1 : decode q_M_compare.2.1 1 = .ok (.getfield 100, 3) := by decide +kernel
theorem d_M_compare_4 : decode q_M_compare.2.1 4 = .ok (.iconst (-1), 1) := by decide +kernel
theorem d_M_compare_5 : decode q_M_compare.2.1 5 = .ok (.if_icmp .ne 10, 3) := by decide +kernel
theorem d_M_compare_8 : decode q_M_compare.2.1 8 = .ok (.aload_n 0, 1) := by decide +kernel
theorem d_M_compare_9 : decode q_M_compare.2.1 9 = .ok (.invokevirtual 112, 3) := by decide +kernel
theorem d_M_compare_12 : decode q_M_compare.2.1 12 = .ok (.goto 4, 3) := by decide +kernel
theorem d_M_compare_16 : decode q_M_compare.2.1 16 = .ok (.istore_n 1, 1) := by decide +kernel
theorem d_M_compare_17 : decode q_M_compare.2.1 17 = .ok (.iload_n 1, 1) := by decide +kernel
theorem d_M_compare_18 : decode q_M_compare.2.1 18 = .ok (.invokestatic 146, 3) := by decide +kernel
theorem ml_M_146 : rx_CS "GlassRoomModel" 146 q_M_isSign 1 := ⟨⟨(rx_s6 115 rfl rfl), (rx_s6 116 rfl rfl)⟩, ⟨(rx_s1 13 rfl rfl), q_M_isSign_k, ⟨by decide, by decide, by decide +kernel⟩, by decide⟩⟩
theorem d_M_compare_21 : decode q_M_compare.2.1 21 = .ok (.ifCond .ne 8, 3) := by decide +kernel
theorem d_M_compare_24 : decode q_M_compare.2.1 24 = .ok (.aload_n 0, 1) := by decide +kernel
theorem d_M_compare_25 : decode q_M_compare.2.1 25 = .ok (.invokevirtual 109, 3) := by decide +kernel
theorem d_M_compare_28 : decode q_M_compare.2.1 28 = .ok (.return_, 1) := by decide +kernel
theorem d_M_compare_29 : decode q_M_compare.2.1 29 = .ok (.aload_n 0, 1) := by decide +kernel
theorem d_M_compare_30 : decode q_M_compare.2.1 30 = .ok (.dup, 1) := by decide +kernel
theorem d_M_compare_31 : decode q_M_compare.2.1 31 = .ok (.getfield 93, 3) := by decide +kernel
theorem d_M_compare_34 : decode q_M_compare.2.1 34 = .ok (.iconst 1, 1) := by decide +kernel
theorem d_M_compare_35 : decode q_M_compare.2.1 35 = .ok (.iadd, 1) := by decide +kernel
theorem d_M_compare_36 : decode q_M_compare.2.1 36 = .ok (.putfield 93, 3) := by decide +kernel
theorem d_M_compare_39 : decode q_M_compare.2.1 39 = .ok (.aload_n 0, 1) := by decide +kernel
theorem d_M_compare_40 : decode q_M_compare.2.1 40 = .ok (.invokevirtual 133, 3) := by decide +kernel
theorem d_M_compare_43 : decode q_M_compare.2.1 43 = .ok (.aload_n 0, 1) := by decide +kernel
theorem d_M_compare_44 : decode q_M_compare.2.1 44 = .ok (.iload_n 1, 1) := by decide +kernel
theorem d_M_compare_45 : decode q_M_compare.2.1 45 = .ok (.bipush 61, 2) := by decide +kernel
theorem d_M_compare_47 : decode q_M_compare.2.1 47 = .ok (.if_icmp .ne 8, 3) := by decide +kernel
theorem d_M_compare_50 : decode q_M_compare.2.1 50 = .ok (.bipush 6, 2) := by decide +kernel
theorem d_M_compare_52 : decode q_M_compare.2.1 52 = .ok (.goto 16, 3) := by decide +kernel
theorem d_M_compare_55 : decode q_M_compare.2.1 55 = .ok (.iload_n 1, 1) := by decide +kernel
theorem d_M_compare_56 : decode q_M_compare.2.1 56 = .ok (.bipush 60, 2) := by decide +kernel
theorem d_M_compare_58 : decode q_M_compare.2.1 58 = .ok (.if_icmp .ne 8, 3) := by decide +kernel
theorem d_M_compare_61 : decode q_M_compare.2.1 61 = .ok (.bipush 7, 2) := by decide +kernel
theorem d_M_compare_63 : decode q_M_compare.2.1 63 = .ok (.goto 5, 3) := by decide +kernel
theorem d_M_compare_66 : decode q_M_compare.2.1 66 = .ok (.bipush 8, 2) := by decide +kernel
theorem d_M_compare_68 : decode q_M_compare.2.1 68 = .ok (.iconst 0, 1) := by decide +kernel
theorem d_M_compare_69 : decode q_M_compare.2.1 69 = .ok (.invokevirtual 122, 3) := by decide +kernel
theorem d_M_compare_72 : decode q_M_compare.2.1 72 = .ok (.return_, 1) := by decide +kernel
theorem d_M_compare_15 : decode q_M_compare.2.1 15 = .ok (.iconst (-1), 1) := by decide +kernel
theorem d_M_unit_0 : decode q_M_unit.2.1 0 = .ok (.aload_n 0, 1) := by decide +kernel
theorem d_M_unit_1 : decode q_M_unit.2.1 1 = .ok (.invokevirtual 112, 3) := by decide +kernel
theorem d_M_unit_4 : decode q_M_unit.2.1 4 = .ok (.istore_n 1, 1) := by decide +kernel
theorem d_M_unit_5 : decode q_M_unit.2.1 5 = .ok (.iload_n 1, 1) := by decide +kernel
theorem d_M_unit_6 : decode q_M_unit.2.1 6 = .ok (.bipush 33, 2) := by decide +kernel
theorem d_M_unit_8 : decode q_M_unit.2.1 8 = .ok (.if_icmp .ne 39, 3) := by decide +kernel
theorem d_M_unit_11 : decode q_M_unit.2.1 11 = .ok (.aload_n 0, 1) := by decide +kernel
theorem d_M_unit_12 : decode q_M_unit.2.1 12 = .ok (.invokevirtual 130, 3) := by decide +kernel
theorem d_M_unit_15 : decode q_M_unit.2.1 15 = .ok (.aload_n 0, 1) := by decide +kernel
theorem d_M_unit_16 : decode q_M_unit.2.1 16 = .ok (.getfield 100, 3) := by decide +kernel
theorem d_M_unit_19 : decode q_M_unit.2.1 19 = .ok (.iconst (-1), 1) := by decide +kernel
theorem d_M_unit_20 : decode q_M_unit.2.1 20 = .ok (.if_icmp .ne 74, 3) := by decide +kernel
theorem d_M_unit_23 : decode q_M_unit.2.1 23 = .ok (.aload_n 0, 1) := by decide +kernel
theorem d_M_unit_24 : decode q_M_unit.2.1 24 = .ok (.invokevirtual 149, 3) := by decide +kernel
theorem ml_M_149 : rx_CV "GlassRoomModel" 149 q_M_unit 0 := ⟨⟨(rx_s6 76 rfl rfl), (rx_s6 78 rfl rfl), (rx_s0 34 rfl rfl)⟩, ⟨(rx_s1 13 rfl rfl), q_M_unit_k, ⟨by decide, by decide, by decide +kernel⟩, by decide⟩⟩
theorem d_M_unit_27 : decode q_M_unit.2.1 27 = .ok (.aload_n 0, 1) := by decide +kernel
theorem d_M_unit_28 : decode q_M_unit.2.1 28 = .ok (.bipush 9, 2) := by decide +kernel
theorem d_M_unit_30 : decode q_M_unit.2.1 30 = .ok (.iconst 0, 1) := by decide +kernel
theorem d_M_unit_31 : decode q_M_unit.2.1 31 = .ok (.invokevirtual 122, 3) := by decide +kernel
theorem d_M_unit_34 : decode q_M_unit.2.1 34 = .ok (.aload_n 0, 1) := by decide +kernel
theorem d_M_unit_35 : decode q_M_unit.2.1 35 = .ok (.dup, 1) := by decide +kernel
theorem d_M_unit_36 : decode q_M_unit.2.1 36 = .ok (.getfield 106, 3) := by decide +kernel
theorem d_M_unit_39 : decode q_M_unit.2.1 39 = .ok (.iconst 1, 1) := by decide +kernel
theorem d_M_unit_40 : decode q_M_unit.2.1 40 = .ok (.isub, 1) := by decide +kernel
theorem d_M_unit_41 : decode q_M_unit.2.1 41 = .ok (.putfield 106, 3) := by decide +kernel
theorem d_M_unit_44 : decode q_M_unit.2.1 44 = .ok (.goto 50, 3) := by decide +kernel
theorem d_M_unit_94 : decode q_M_unit.2.1 94 = .ok (.return_, 1) := by decide +kernel
theorem d_M_unit_47 : decode q_M_unit.2.1 47 = .ok (.iload_n 1, 1) := by decide +kernel
theorem d_M_unit_48 : decode q_M_unit.2.1 48 = .ok (.bipush 40, 2) := by decide +kernel
theorem d_M_unit_50 : decode q_M_unit.2.1 50 = .ok (.if_icmp .ne 28, 3) := by decide +kernel
theorem d_M_unit_53 : decode q_M_unit.2.1 53 = .ok (.aload_n 0, 1) := by decide +kernel
theorem d_M_unit_54 : decode q_M_unit.2.1 54 = .ok (.invokevirtual 130, 3) := by decide +kernel
theorem d_M_unit_57 : decode q_M_unit.2.1 57 = .ok (.aload_n 0, 1) := by decide +kernel
theorem d_M_unit_58 : decode q_M_unit.2.1 58 = .ok (.getfield 100, 3) := by decide +kernel
theorem d_M_unit_61 : decode q_M_unit.2.1 61 = .ok (.iconst (-1), 1) := by decide +kernel
theorem d_M_unit_62 : decode q_M_unit.2.1 62 = .ok (.if_icmp .ne 32, 3) := by decide +kernel
theorem d_M_unit_65 : decode q_M_unit.2.1 65 = .ok (.aload_n 0, 1) := by decide +kernel
theorem d_M_unit_66 : decode q_M_unit.2.1 66 = .ok (.invokevirtual 152, 3) := by decide +kernel
theorem ml_M_152 : rx_CV "GlassRoomModel" 152 q_M_condition 0 := ⟨⟨(rx_s6 72 rfl rfl), (rx_s6 74 rfl rfl), (rx_s0 33 rfl rfl)⟩, ⟨(rx_s1 13 rfl rfl), q_M_condition_k, ⟨by decide, by decide, by decide +kernel⟩, by decide⟩⟩
theorem d_M_unit_69 : decode q_M_unit.2.1 69 = .ok (.aload_n 0, 1) := by decide +kernel
theorem d_M_unit_70 : decode q_M_unit.2.1 70 = .ok (.bipush 41, 2) := by decide +kernel
theorem d_M_unit_72 : decode q_M_unit.2.1 72 = .ok (.invokevirtual 136, 3) := by decide +kernel
theorem d_M_unit_75 : decode q_M_unit.2.1 75 = .ok (.goto 19, 3) := by decide +kernel
theorem d_M_unit_78 : decode q_M_unit.2.1 78 = .ok (.aload_n 0, 1) := by decide +kernel
theorem d_M_unit_79 : decode q_M_unit.2.1 79 = .ok (.invokevirtual 133, 3) := by decide +kernel
theorem d_M_unit_82 : decode q_M_unit.2.1 82 = .ok (.aload_n 0, 1) := by decide +kernel
theorem d_M_unit_83 : decode q_M_unit.2.1 83 = .ok (.getfield 100, 3) := by decide +kernel
theorem d_M_unit_86 : decode q_M_unit.2.1 86 = .ok (.iconst (-1), 1) := by decide +kernel
theorem d_M_unit_87 : decode q_M_unit.2.1 87 = .ok (.if_icmp .ne 7, 3) := by decide +kernel
theorem d_M_unit_90 : decode q_M_unit.2.1 90 = .ok (.aload_n 0, 1) := by decide +kernel
theorem d_M_unit_91 : decode q_M_unit.2.1 91 = .ok (.invokevirtual 155, 3) := by decide +kernel
theorem ml_M_155 : rx_CV "GlassRoomModel" 155 q_M_compare 0 := ⟨⟨(rx_s6 111 rfl rfl), (rx_s6 113 rfl rfl), (rx_s0 42 rfl rfl)⟩, ⟨(rx_s1 13 rfl rfl), q_M_compare_k, ⟨by decide, by decide, by decide +kernel⟩, by decide⟩⟩
theorem d_M_goOnAnd_0 : decode q_M_goOnAnd.2.1 0 = .ok (.aload_n 0, 1) := by decide +kernel
theorem d_M_goOnAnd_1 : decode q_M_goOnAnd.2.1 1 = .ok (.getfield 100, 3) := by decide +kernel
theorem d_M_goOnAnd_4 : decode q_M_goOnAnd.2.1 4 = .ok (.iconst (-1), 1) := by decide +kernel
theorem d_M_goOnAnd_5 : decode q_M_goOnAnd.2.1 5 = .ok (.if_icmp .ne 36, 3) := by decide +kernel
theorem d_M_goOnAnd_8 : decode q_M_goOnAnd.2.1 8 = .ok (.aload_n 0, 1) := by decide +kernel
theorem d_M_goOnAnd_9 : decode q_M_goOnAnd.2.1 9 = .ok (.invokevirtual 112, 3) := by decide +kernel
theorem d_M_goOnAnd_12 : decode q_M_goOnAnd.2.1 12 = .ok (.bipush 38, 2) := by decide +kernel
theorem d_M_goOnAnd_14 : decode q_M_goOnAnd.2.1 14 = .ok (.if_icmp .ne 27, 3) := by decide +kernel
theorem d_M_goOnAnd_17 : decode q_M_goOnAnd.2.1 17 = .ok (.aload_n 0, 1) := by decide +kernel
theorem d_M_goOnAnd_18 : decode q_M_goOnAnd.2.1 18 = .ok (.dup, 1) := by decide +kernel
theorem d_M_goOnAnd_19 : decode q_M_goOnAnd.2.1 19 = .ok (.getfield 93, 3) := by decide +kernel
theorem d_M_goOnAnd_22 : decode q_M_goOnAnd.2.1 22 = .ok (.iconst 1, 1) := by decide +kernel
theorem d_M_goOnAnd_23 : decode q_M_goOnAnd.2.1 23 = .ok (.iadd, 1) := by decide +kernel
theorem d_M_goOnAnd_24 : decode q_M_goOnAnd.2.1 24 = .ok (.putfield 93, 3) := by decide +kernel
theorem d_M_goOnAnd_27 : decode q_M_goOnAnd.2.1 27 = .ok (.aload_n 0, 1) := by decide +kernel
theorem d_M_goOnAnd_28 : decode q_M_goOnAnd.2.1 28 = .ok (.invokevirtual 149, 3) := by decide +kernel
theorem d_M_goOnAnd_31 : decode q_M_goOnAnd.2.1 31 = .ok (.aload_n 0, 1) := by decide +kernel
theorem d_M_goOnAnd_32 : decode q_M_goOnAnd.2.1 32 = .ok (.bipush 10, 2) := by decide +kernel
theorem d_M_goOnAnd_34 : decode q_M_goOnAnd.2.1 34 = .ok (.iconst 0, 1) := by decide +kernel
theorem d_M_goOnAnd_35 : decode q_M_goOnAnd.2.1 35 = .ok (.invokevirtual 122, 3) := by decide +kernel
theorem d_M_goOnAnd_38 : decode q_M_goOnAnd.2.1 38 = .ok (.goto (-38), 3) := by decide +kernel
theorem d_M_goOnAnd_41 : decode q_M_goOnAnd.2.1 41 = .ok (.return_, 1) := by decide +kernel
theorem d_M_goOnOr_0 : decode q_M_goOnOr.2.1 0 = .ok (.aload_n 0, 1) := by decide +kernel
theorem d_M_goOnOr_1 : decode q_M_goOnOr.2.1 1 = .ok (.getfield 100, 3) := by decide +kernel
theorem d_M_goOnOr_4 : decode q_M_goOnOr.2.1 4 = .ok (.iconst (-1), 1) := by decide +kernel
theorem d_M_goOnOr_5 : decode q_M_goOnOr.2.1 5 = .ok (.if_icmp .ne 40, 3) := by decide +kernel
theorem d_M_goOnOr_8 : decode q_M_goOnOr.2.1 8 = .ok (.aload_n 0, 1) := by decide +kernel
theorem d_M_goOnOr_9 : decode q_M_goOnOr.2.1 9 = .ok (.invokevirtual 112, 3) := by decide +kernel
theorem d_M_goOnOr_12 : decode q_M_goOnOr.2.1 12 = .ok (.bipush 124, 2) := by decide +kernel
theorem d_M_goOnOr_14 : decode q_M_goOnOr.2.1 14 = .ok (.if_icmp .ne 31, 3) := by decide +kernel
theorem d_M_goOnOr_17 : decode q_M_goOnOr.2.1 17 = .ok (.aload_n 0, 1) := by decide +kernel
theorem d_M_goOnOr_18 : decode q_M_goOnOr.2.1 18 = .ok (.dup, 1) := by decide +kernel
theorem d_M_goOnOr_19 : decode q_M_goOnOr.2.1 19 = .ok (.getfield 93, 3) := by decide +kernel
theorem d_M_goOnOr_22 : decode q_M_goOnOr.2.1 22 = .ok (.iconst 1, 1) := by decide +kernel
theorem d_M_goOnOr_23 : decode q_M_goOnOr.2.1 23 = .ok (.iadd, 1) := by decide +kernel
theorem d_M_goOnOr_24 : decode q_M_goOnOr.2.1 24 = .ok (.putfield 93, 3) := by decide +kernel
theorem d_M_goOnOr_27 : decode q_M_goOnOr.2.1 27 = .ok (.aload_n 0, 1) := by decide +kernel
theorem d_M_goOnOr_28 : decode q_M_goOnOr.2.1 28 = .ok (.invokevirtual 149, 3) := by decide +kernel
theorem d_M_goOnOr_31 : decode q_M_goOnOr.2.1 31 = .ok (.aload_n 0, 1) := by decide +kernel
theorem d_M_goOnOr_32 : decode q_M_goOnOr.2.1 32 = .ok (.invokevirtual 158, 3) := by decide +kernel
theorem ml_M_158 : rx_CV "GlassRoomModel" 158 q_M_goOnAnd 0 := ⟨⟨(rx_s6 118 rfl rfl), (rx_s6 120 rfl rfl), (rx_s0 43 rfl rfl)⟩, ⟨(rx_s1 13 rfl rfl), q_M_goOnAnd_k, ⟨by decide, by decide, by decide +kernel⟩, by decide⟩⟩
theorem d_M_goOnOr_35 : decode q_M_goOnOr.2.1 35 = .ok (.aload_n 0, 1) := by decide +kernel
theorem d_M_goOnOr_36 : decode q_M_goOnOr.2.1 36 = .ok (.bipush 11, 2) := by decide +kernel
theorem bp_11 : (Int8.ofInt (11)).toInt32 = (11 : Int32) := by decide
theorem d_M_goOnOr_38 : decode q_M_goOnOr.2.1 38 = .ok (.iconst 0, 1) := by decide +kernel
theorem d_M_goOnOr_39 : decode q_M_goOnOr.2.1 39 = .ok (.invokevirtual 122, 3) := by decide +kernel
theorem d_M_goOnOr_42 : decode q_M_goOnOr.2.1 42 = .ok (.goto (-42), 3) := by decide +kernel
theorem d_M_goOnOr_45 : decode q_M_goOnOr.2.1 45 = .ok (.return_, 1) := by decide +kernel
theorem d_M_condition_0 : decode q_M_condition.2.1 0 = .ok (.aload_n 0, 1) := by decide +kernel
theorem d_M_condition_1 : decode q_M_condition.2.1 1 = .ok (.invokevirtual 149, 3) := by decide +kernel
theorem d_M_condition_4 : decode q_M_condition.2.1 4 = .ok (.aload_n 0, 1) := by decide +kernel
theorem d_M_condition_5 : decode q_M_condition.2.1 5 = .ok (.invokevirtual 158, 3) := by decide +kernel
theorem d_M_condition_8 : decode q_M_condition.2.1 8 = .ok (.aload_n 0, 1) := by decide +kernel
theorem d_M_condition_9 : decode q_M_condition.2.1 9 = .ok (.invokevirtual 161, 3) := by decide +kernel
theorem ml_M_161 : rx_CV "GlassRoomModel" 161 q_M_goOnOr 0 := ⟨⟨(rx_s6 122 rfl rfl), (rx_s6 124 rfl rfl), (rx_s0 44 rfl rfl)⟩, ⟨(rx_s1 13 rfl rfl), q_M_goOnOr_k, ⟨by decide, by decide, by decide +kernel⟩, by decide⟩⟩
theorem d_M_condition_12 : decode q_M_condition.2.1 12 = .ok (.return_, 1) := by decide +kernel
theorem d_M_clause_0 : decode q_M_clause.2.1 0 = .ok (.bipush 90, 2) := by decide +kernel
theorem bp_90 : (Int8.ofInt (90)).toInt32 = (90 : Int32) := by decide
theorem d_M_clause_2 : decode q_M_clause.2.1 2 = .ok (.aload_n 0, 1) := by decide +kernel
theorem d_M_clause_3 : decode q_M_clause.2.1 3 = .ok (.getfield 103, 3) := by decide +kernel
theorem d_M_clause_6 : decode q_M_clause.2.1 6 = .ok (.imul, 1) := by decide +kernel
theorem d_M_clause_7 : decode q_M_clause.2.1 7 = .ok (.aload_n 0, 1) := by decide +kernel
theorem d_M_clause_8 : decode q_M_clause.2.1 8 = .ok (.getfield 22, 3) := by decide +kernel
theorem d_M_clause_11 : decode q_M_clause.2.1 11 = .ok (.aload_n 0, 1) := by decide +kernel
theorem d_M_clause_12 : decode q_M_clause.2.1 12 = .ok (.getfield 103, 3) := by decide +kernel
theorem d_M_clause_15 : decode q_M_clause.2.1 15 = .ok (.iaload, 1) := by decide +kernel
theorem d_M_clause_16 : decode q_M_clause.2.1 16 = .ok (.iadd, 1) := by decide +kernel
theorem d_M_clause_17 : decode q_M_clause.2.1 17 = .ok (.istore_n 1, 1) := by decide +kernel
theorem d_M_clause_18 : decode q_M_clause.2.1 18 = .ok (.aload_n 0, 1) := by decide +kernel
theorem d_M_clause_19 : decode q_M_clause.2.1 19 = .ok (.getfield 100, 3) := by decide +kernel
theorem d_M_clause_22 : decode q_M_clause.2.1 22 = .ok (.iconst (-1), 1) := by decide +kernel
theorem d_M_clause_23 : decode q_M_clause.2.1 23 = .ok (.if_icmp .ne 16, 3) := by decide +kernel
theorem d_M_clause_26 : decode q_M_clause.2.1 26 = .ok (.aload_n 0, 1) := by decide +kernel
theorem d_M_clause_27 : decode q_M_clause.2.1 27 = .ok (.invokevirtual 112, 3) := by decide +kernel
theorem d_M_clause_30 : decode q_M_clause.2.1 30 = .ok (.bipush 121, 2) := by decide +kernel
theorem d_M_clause_32 : decode q_M_clause.2.1 32 = .ok (.if_icmp .eq 7, 3) := by decide +kernel
theorem d_M_clause_35 : decode q_M_clause.2.1 35 = .ok (.aload_n 0, 1) := by decide +kernel
theorem d_M_clause_39 : decode q_M_clause.2.1 39 = .ok (.aload_n 0, 1) := by decide +kernel
theorem d_M_clause_40 : decode q_M_clause.2.1 40 = .ok (.dup, 1) := by decide +kernel
theorem d_M_clause_41 : decode q_M_clause.2.1 41 = .ok (.getfield 93, 3) := by decide +kernel
theorem d_M_clause_44 : decode q_M_clause.2.1 44 = .ok (.iconst 1, 1) := by decide +kernel
theorem d_M_clause_45 : decode q_M_clause.2.1 45 = .ok (.iadd, 1) := by decide +kernel
theorem d_M_clause_46 : decode q_M_clause.2.1 46 = .ok (.putfield 93, 3) := by decide +kernel
theorem d_M_clause_49 : decode q_M_clause.2.1 49 = .ok (.aload_n 0, 1) := by decide +kernel
theorem d_M_clause_50 : decode q_M_clause.2.1 50 = .ok (.getfield 100, 3) := by decide +kernel
theorem d_M_clause_53 : decode q_M_clause.2.1 53 = .ok (.iconst (-1), 1) := by decide +kernel
theorem d_M_clause_54 : decode q_M_clause.2.1 54 = .ok (.if_icmp .ne 16, 3) := by decide +kernel
theorem d_M_clause_57 : decode q_M_clause.2.1 57 = .ok (.aload_n 0, 1) := by decide +kernel
theorem d_M_clause_58 : decode q_M_clause.2.1 58 = .ok (.invokevirtual 112, 3) := by decide +kernel
theorem d_M_clause_61 : decode q_M_clause.2.1 61 = .ok (.bipush 58, 2) := by decide +kernel
theorem d_M_clause_63 : decode q_M_clause.2.1 63 = .ok (.if_icmp .eq 7, 3) := by decide +kernel
theorem d_M_clause_66 : decode q_M_clause.2.1 66 = .ok (.aload_n 0, 1) := by decide +kernel
theorem d_M_clause_70 : decode q_M_clause.2.1 70 = .ok (.aload_n 0, 1) := by decide +kernel
theorem d_M_clause_71 : decode q_M_clause.2.1 71 = .ok (.dup, 1) := by decide +kernel
theorem d_M_clause_72 : decode q_M_clause.2.1 72 = .ok (.getfield 93, 3) := by decide +kernel
theorem d_M_clause_75 : decode q_M_clause.2.1 75 = .ok (.iconst 1, 1) := by decide +kernel
theorem d_M_clause_76 : decode q_M_clause.2.1 76 = .ok (.iadd, 1) := by decide +kernel
theorem d_M_clause_77 : decode q_M_clause.2.1 77 = .ok (.putfield 93, 3) := by decide +kernel
theorem d_M_clause_80 : decode q_M_clause.2.1 80 = .ok (.aload_n 0, 1) := by decide +kernel
theorem d_M_clause_81 : decode q_M_clause.2.1 81 = .ok (.getfield 100, 3) := by decide +kernel
theorem d_M_clause_84 : decode q_M_clause.2.1 84 = .ok (.iconst (-1), 1) := by decide +kernel
theorem d_M_clause_85 : decode q_M_clause.2.1 85 = .ok (.if_icmp .eq 4, 3) := by decide +kernel
theorem d_M_clause_89 : decode q_M_clause.2.1 89 = .ok (.aload_n 0, 1) := by decide +kernel
theorem d_M_clause_90 : decode q_M_clause.2.1 90 = .ok (.getfield 25, 3) := by decide +kernel
theorem fl_M_25 : rx_F "GlassRoomModel" 25 12 10 := ⟨(RX12, TX12, 45), rfl, by decide, (rx_s5 109 rfl rfl), rx_T12⟩
theorem d_M_clause_93 : decode q_M_clause.2.1 93 = .ok (.iload_n 1, 1) := by decide +kernel
theorem d_M_clause_94 : decode q_M_clause.2.1 94 = .ok (.aload_n 0, 1) := by decide +kernel
theorem d_M_clause_95 : decode q_M_clause.2.1 95 = .ok (.getfield 19, 3) := by decide +kernel
theorem d_M_clause_98 : decode q_M_clause.2.1 98 = .ok (.aload_n 0, 1) := by decide +kernel
theorem d_M_clause_99 : decode q_M_clause.2.1 99 = .ok (.getfield 103, 3) := by decide +kernel
theorem d_M_clause_102 : decode q_M_clause.2.1 102 = .ok (.iaload, 1) := by decide +kernel
theorem d_M_clause_103 : decode q_M_clause.2.1 103 = .ok (.iastore, 1) := by decide +kernel
theorem d_M_clause_104 : decode q_M_clause.2.1 104 = .ok (.aload_n 0, 1) := by decide +kernel
theorem d_M_clause_105 : decode q_M_clause.2.1 105 = .ok (.invokevirtual 112, 3) := by decide +kernel
theorem d_M_clause_108 : decode q_M_clause.2.1 108 = .ok (.bipush 33, 2) := by decide +kernel
theorem d_M_clause_110 : decode q_M_clause.2.1 110 = .ok (.if_icmp .eq 12, 3) := by decide +kernel
theorem d_M_clause_122 : decode q_M_clause.2.1 122 = .ok (.iconst 1, 1) := by decide +kernel
theorem d_M_clause_123 : decode q_M_clause.2.1 123 = .ok (.goto 4, 3) := by decide +kernel
theorem d_M_clause_113 : decode q_M_clause.2.1 113 = .ok (.aload_n 0, 1) := by decide +kernel
theorem d_M_clause_127 : decode q_M_clause.2.1 127 = .ok (.istore_n 2, 1) := by decide +kernel
theorem d_M_clause_128 : decode q_M_clause.2.1 128 = .ok (.iload_n 2, 1) := by decide +kernel
theorem d_M_clause_129 : decode q_M_clause.2.1 129 = .ok (.ifCond .eq 10, 3) := by decide +kernel
theorem d_M_clause_132 : decode q_M_clause.2.1 132 = .ok (.aload_n 0, 1) := by decide +kernel
theorem d_M_clause_133 : decode q_M_clause.2.1 133 = .ok (.invokevirtual 152, 3) := by decide +kernel
theorem d_M_clause_136 : decode q_M_clause.2.1 136 = .ok (.goto 47, 3) := by decide +kernel
theorem d_M_clause_183 : decode q_M_clause.2.1 183 = .ok (.aload_n 0, 1) := by decide +kernel
theorem d_M_clause_184 : decode q_M_clause.2.1 184 = .ok (.getfield 28, 3) := by decide +kernel
theorem fl_M_28 : rx_F "GlassRoomModel" 28 12 11 := ⟨(RX12, TX12, 45), rfl, by decide, (rx_s5 110 rfl rfl), rx_T12⟩
theorem d_M_clause_187 : decode q_M_clause.2.1 187 = .ok (.iload_n 1, 1) := by decide +kernel
theorem d_M_clause_188 : decode q_M_clause.2.1 188 = .ok (.aload_n 0, 1) := by decide +kernel
theorem d_M_clause_189 : decode q_M_clause.2.1 189 = .ok (.getfield 25, 3) := by decide +kernel
theorem d_M_clause_192 : decode q_M_clause.2.1 192 = .ok (.iload_n 1, 1) := by decide +kernel
theorem d_M_clause_193 : decode q_M_clause.2.1 193 = .ok (.iaload, 1) := by decide +kernel
theorem d_M_clause_194 : decode q_M_clause.2.1 194 = .ok (.iastore, 1) := by decide +kernel
theorem d_M_clause_195 : decode q_M_clause.2.1 195 = .ok (.iload_n 2, 1) := by decide +kernel
theorem d_M_clause_196 : decode q_M_clause.2.1 196 = .ok (.ifCond .eq 54, 3) := by decide +kernel
theorem d_M_clause_199 : decode q_M_clause.2.1 199 = .ok (.aload_n 0, 1) := by decide +kernel
theorem d_M_clause_200 : decode q_M_clause.2.1 200 = .ok (.getfield 100, 3) := by decide +kernel
theorem d_M_clause_203 : decode q_M_clause.2.1 203 = .ok (.iconst (-1), 1) := by decide +kernel
theorem d_M_clause_204 : decode q_M_clause.2.1 204 = .ok (.if_icmp .ne 46, 3) := by decide +kernel
theorem d_M_clause_207 : decode q_M_clause.2.1 207 = .ok (.aload_n 0, 1) := by decide +kernel
theorem d_M_clause_208 : decode q_M_clause.2.1 208 = .ok (.invokevirtual 112, 3) := by decide +kernel
theorem d_M_clause_211 : decode q_M_clause.2.1 211 = .ok (.bipush 63, 2) := by decide +kernel
theorem d_M_clause_213 : decode q_M_clause.2.1 213 = .ok (.if_icmp .eq 8, 3) := by decide +kernel
theorem d_M_clause_221 : decode q_M_clause.2.1 221 = .ok (.aload_n 0, 1) := by decide +kernel
theorem d_M_clause_222 : decode q_M_clause.2.1 222 = .ok (.dup, 1) := by decide +kernel
theorem d_M_clause_223 : decode q_M_clause.2.1 223 = .ok (.getfield 93, 3) := by decide +kernel
theorem d_M_clause_226 : decode q_M_clause.2.1 226 = .ok (.iconst 1, 1) := by decide +kernel
theorem d_M_clause_227 : decode q_M_clause.2.1 227 = .ok (.iadd, 1) := by decide +kernel
theorem d_M_clause_228 : decode q_M_clause.2.1 228 = .ok (.putfield 93, 3) := by decide +kernel
theorem d_M_clause_231 : decode q_M_clause.2.1 231 = .ok (.aload_n 0, 1) := by decide +kernel
theorem d_M_clause_232 : decode q_M_clause.2.1 232 = .ok (.getfield 28, 3) := by decide +kernel
theorem d_M_clause_235 : decode q_M_clause.2.1 235 = .ok (.iload_n 1, 1) := by decide +kernel
theorem d_M_clause_236 : decode q_M_clause.2.1 236 = .ok (.aload_n 0, 1) := by decide +kernel
theorem d_M_clause_237 : decode q_M_clause.2.1 237 = .ok (.getfield 19, 3) := by decide +kernel
theorem d_M_clause_240 : decode q_M_clause.2.1 240 = .ok (.aload_n 0, 1) := by decide +kernel
theorem d_M_clause_241 : decode q_M_clause.2.1 241 = .ok (.getfield 103, 3) := by decide +kernel
theorem d_M_clause_244 : decode q_M_clause.2.1 244 = .ok (.iaload, 1) := by decide +kernel
theorem d_M_clause_245 : decode q_M_clause.2.1 245 = .ok (.iastore, 1) := by decide +kernel
theorem d_M_clause_246 : decode q_M_clause.2.1 246 = .ok (.aload_n 0, 1) := by decide +kernel
theorem d_M_clause_247 : decode q_M_clause.2.1 247 = .ok (.invokevirtual 133, 3) := by decide +kernel
theorem d_M_clause_250 : decode q_M_clause.2.1 250 = .ok (.aload_n 0, 1) := by decide +kernel
theorem d_M_clause_251 : decode q_M_clause.2.1 251 = .ok (.getfield 31, 3) := by decide +kernel
theorem fl_M_31 : rx_F "GlassRoomModel" 31 12 12 := ⟨(RX12, TX12, 45), rfl, by decide, (rx_s5 111 rfl rfl), rx_T12⟩
theorem d_M_clause_254 : decode q_M_clause.2.1 254 = .ok (.iload_n 1, 1) := by decide +kernel
theorem d_M_clause_255 : decode q_M_clause.2.1 255 = .ok (.aload_n 0, 1) := by decide +kernel
theorem d_M_clause_256 : decode q_M_clause.2.1 256 = .ok (.getfield 19, 3) := by decide +kernel
theorem d_M_clause_259 : decode q_M_clause.2.1 259 = .ok (.aload_n 0, 1) := by decide +kernel
theorem d_M_clause_260 : decode q_M_clause.2.1 260 = .ok (.getfield 103, 3) := by decide +kernel
theorem d_M_clause_263 : decode q_M_clause.2.1 263 = .ok (.iaload, 1) := by decide +kernel
theorem d_M_clause_264 : decode q_M_clause.2.1 264 = .ok (.iastore, 1) := by decide +kernel
theorem d_M_clause_265 : decode q_M_clause.2.1 265 = .ok (.aload_n 0, 1) := by decide +kernel
theorem d_M_clause_266 : decode q_M_clause.2.1 266 = .ok (.getfield 22, 3) := by decide +kernel
theorem d_M_clause_269 : decode q_M_clause.2.1 269 = .ok (.aload_n 0, 1) := by decide +kernel
theorem d_M_clause_270 : decode q_M_clause.2.1 270 = .ok (.getfield 103, 3) := by decide +kernel
theorem d_M_clause_273 : decode q_M_clause.2.1 273 = .ok (.dup2, 1) := by decide +kernel
theorem d_M_clause_274 : decode q_M_clause.2.1 274 = .ok (.iaload, 1) := by decide +kernel
theorem d_M_clause_275 : decode q_M_clause.2.1 275 = .ok (.iconst 1, 1) := by decide +kernel
theorem d_M_clause_276 : decode q_M_clause.2.1 276 = .ok (.iadd, 1) := by decide +kernel
theorem d_M_clause_277 : decode q_M_clause.2.1 277 = .ok (.iastore, 1) := by decide +kernel
theorem d_M_clause_278 : decode q_M_clause.2.1 278 = .ok (.return_, 1) := by decide +kernel
theorem d_M_clause_216 : decode q_M_clause.2.1 216 = .ok (.aload_n 0, 1) := by decide +kernel
theorem d_M_clause_217 : decode q_M_clause.2.1 217 = .ok (.invokevirtual 109, 3) := by decide +kernel
theorem d_M_clause_220 : decode q_M_clause.2.1 220 = .ok (.return_, 1) := by decide +kernel
theorem d_M_clause_114 : decode q_M_clause.2.1 114 = .ok (.invokevirtual 112, 3) := by decide +kernel
theorem d_M_clause_117 : decode q_M_clause.2.1 117 = .ok (.bipush 40, 2) := by decide +kernel
theorem d_M_clause_119 : decode q_M_clause.2.1 119 = .ok (.if_icmp .ne 7, 3) := by decide +kernel
theorem d_M_clause_126 : decode q_M_clause.2.1 126 = .ok (.iconst 0, 1) := by decide +kernel
theorem d_M_clause_139 : decode q_M_clause.2.1 139 = .ok (.aload_n 0, 1) := by decide +kernel
theorem d_M_clause_140 : decode q_M_clause.2.1 140 = .ok (.invokevirtual 133, 3) := by decide +kernel
theorem d_M_clause_143 : decode q_M_clause.2.1 143 = .ok (.aload_n 0, 1) := by decide +kernel
theorem d_M_clause_144 : decode q_M_clause.2.1 144 = .ok (.getfield 100, 3) := by decide +kernel
theorem d_M_clause_147 : decode q_M_clause.2.1 147 = .ok (.iconst (-1), 1) := by decide +kernel
theorem d_M_clause_148 : decode q_M_clause.2.1 148 = .ok (.if_icmp .ne 17, 3) := by decide +kernel
theorem d_M_clause_151 : decode q_M_clause.2.1 151 = .ok (.aload_n 0, 1) := by decide +kernel
theorem d_M_clause_152 : decode q_M_clause.2.1 152 = .ok (.invokevirtual 112, 3) := by decide +kernel
theorem d_M_clause_155 : decode q_M_clause.2.1 155 = .ok (.invokestatic 146, 3) := by decide +kernel
theorem d_M_clause_158 : decode q_M_clause.2.1 158 = .ok (.ifCond .eq 7, 3) := by decide +kernel
theorem d_M_clause_165 : decode q_M_clause.2.1 165 = .ok (.iconst 0, 1) := by decide +kernel
theorem d_M_clause_161 : decode q_M_clause.2.1 161 = .ok (.iconst 1, 1) := by decide +kernel
theorem d_M_clause_162 : decode q_M_clause.2.1 162 = .ok (.goto 4, 3) := by decide +kernel
theorem d_M_clause_166 : decode q_M_clause.2.1 166 = .ok (.istore_n 2, 1) := by decide +kernel
theorem d_M_clause_167 : decode q_M_clause.2.1 167 = .ok (.iload_n 2, 1) := by decide +kernel
theorem d_M_clause_168 : decode q_M_clause.2.1 168 = .ok (.ifCond .eq 15, 3) := by decide +kernel
theorem d_M_clause_171 : decode q_M_clause.2.1 171 = .ok (.aload_n 0, 1) := by decide +kernel
theorem d_M_clause_172 : decode q_M_clause.2.1 172 = .ok (.invokevirtual 155, 3) := by decide +kernel
theorem d_M_clause_175 : decode q_M_clause.2.1 175 = .ok (.aload_n 0, 1) := by decide +kernel
theorem d_M_clause_176 : decode q_M_clause.2.1 176 = .ok (.invokevirtual 158, 3) := by decide +kernel
theorem d_M_clause_179 : decode q_M_clause.2.1 179 = .ok (.aload_n 0, 1) := by decide +kernel
theorem d_M_clause_180 : decode q_M_clause.2.1 180 = .ok (.invokevirtual 161, 3) := by decide +kernel
theorem d_M_clause_88 : decode q_M_clause.2.1 88 = .ok (.return_, 1) := by decide +kernel
theorem d_M_clause_67 : decode q_M_clause.2.1 67 = .ok (.invokevirtual 109, 3) := by decide +kernel
theorem d_M_clause_36 : decode q_M_clause.2.1 36 = .ok (.invokevirtual 109, 3) := by decide +kernel
theorem d_M_atEnd_0 : decode q_M_atEnd.2.1 0 = .ok (.aload_n 0, 1) := by decide +kernel
theorem d_M_atEnd_1 : decode q_M_atEnd.2.1 1 = .ok (.getfield 100, 3) := by decide +kernel
theorem d_M_atEnd_4 : decode q_M_atEnd.2.1 4 = .ok (.iconst (-1), 1) := by decide +kernel
theorem d_M_atEnd_5 : decode q_M_atEnd.2.1 5 = .ok (.if_icmp .ne 15, 3) := by decide +kernel
theorem d_M_atEnd_8 : decode q_M_atEnd.2.1 8 = .ok (.aload_n 0, 1) := by decide +kernel
theorem d_M_atEnd_9 : decode q_M_atEnd.2.1 9 = .ok (.invokevirtual 112, 3) := by decide +kernel
theorem d_M_atEnd_12 : decode q_M_atEnd.2.1 12 = .ok (.iconst (-1), 1) := by decide +kernel
theorem d_M_atEnd_13 : decode q_M_atEnd.2.1 13 = .ok (.if_icmp .eq 7, 3) := by decide +kernel
theorem d_M_atEnd_16 : decode q_M_atEnd.2.1 16 = .ok (.aload_n 0, 1) := by decide +kernel
theorem d_M_atEnd_20 : decode q_M_atEnd.2.1 20 = .ok (.aload_n 0, 1) := by decide +kernel
theorem d_M_atEnd_21 : decode q_M_atEnd.2.1 21 = .ok (.getfield 100, 3) := by decide +kernel
theorem d_M_atEnd_24 : decode q_M_atEnd.2.1 24 = .ok (.ireturn, 1) := by decide +kernel
theorem d_M_atEnd_17 : decode q_M_atEnd.2.1 17 = .ok (.invokevirtual 109, 3) := by decide +kernel
theorem d_M_readLaw_0 : decode q_M_readLaw.2.1 0 = .ok (.aload_n 0, 1) := by decide +kernel
theorem d_M_readLaw_1 : decode q_M_readLaw.2.1 1 = .ok (.iload_n 1, 1) := by decide +kernel
theorem d_M_readLaw_2 : decode q_M_readLaw.2.1 2 = .ok (.invokevirtual 164, 3) := by decide +kernel
theorem ml_M_164 : rx_CV "GlassRoomModel" 164 q_M_open 1 := ⟨⟨(rx_s6 64 rfl rfl), (rx_s6 66 rfl rfl), (rx_s0 31 rfl rfl)⟩, ⟨(rx_s1 13 rfl rfl), q_M_open_k, ⟨by decide, by decide, by decide +kernel⟩, by decide⟩⟩
theorem d_M_readLaw_5 : decode q_M_readLaw.2.1 5 = .ok (.aload_n 0, 1) := by decide +kernel
theorem d_M_readLaw_6 : decode q_M_readLaw.2.1 6 = .ok (.invokevirtual 167, 3) := by decide +kernel
theorem ml_M_167 : rx_CV "GlassRoomModel" 167 q_M_clause 0 := ⟨⟨(rx_s6 68 rfl rfl), (rx_s6 70 rfl rfl), (rx_s0 32 rfl rfl)⟩, ⟨(rx_s1 13 rfl rfl), q_M_clause_k, ⟨by decide, by decide, by decide +kernel⟩, by decide⟩⟩
theorem d_M_readLaw_9 : decode q_M_readLaw.2.1 9 = .ok (.aload_n 0, 1) := by decide +kernel
theorem d_M_readLaw_10 : decode q_M_readLaw.2.1 10 = .ok (.getfield 100, 3) := by decide +kernel
theorem d_M_readLaw_13 : decode q_M_readLaw.2.1 13 = .ok (.iconst (-1), 1) := by decide +kernel
theorem d_M_readLaw_14 : decode q_M_readLaw.2.1 14 = .ok (.if_icmp .ne 29, 3) := by decide +kernel
theorem d_M_readLaw_17 : decode q_M_readLaw.2.1 17 = .ok (.aload_n 0, 1) := by decide +kernel
theorem d_M_readLaw_18 : decode q_M_readLaw.2.1 18 = .ok (.invokevirtual 112, 3) := by decide +kernel
theorem d_M_readLaw_21 : decode q_M_readLaw.2.1 21 = .ok (.bipush 59, 2) := by decide +kernel
theorem d_M_readLaw_23 : decode q_M_readLaw.2.1 23 = .ok (.if_icmp .ne 20, 3) := by decide +kernel
theorem d_M_readLaw_26 : decode q_M_readLaw.2.1 26 = .ok (.aload_n 0, 1) := by decide +kernel
theorem d_M_readLaw_27 : decode q_M_readLaw.2.1 27 = .ok (.dup, 1) := by decide +kernel
theorem d_M_readLaw_28 : decode q_M_readLaw.2.1 28 = .ok (.getfield 93, 3) := by decide +kernel
theorem d_M_readLaw_31 : decode q_M_readLaw.2.1 31 = .ok (.iconst 1, 1) := by decide +kernel
theorem d_M_readLaw_32 : decode q_M_readLaw.2.1 32 = .ok (.iadd, 1) := by decide +kernel
theorem d_M_readLaw_33 : decode q_M_readLaw.2.1 33 = .ok (.putfield 93, 3) := by decide +kernel
theorem d_M_readLaw_36 : decode q_M_readLaw.2.1 36 = .ok (.aload_n 0, 1) := by decide +kernel
theorem d_M_readLaw_37 : decode q_M_readLaw.2.1 37 = .ok (.invokevirtual 167, 3) := by decide +kernel
theorem d_M_readLaw_40 : decode q_M_readLaw.2.1 40 = .ok (.goto (-31), 3) := by decide +kernel
theorem d_M_readLaw_43 : decode q_M_readLaw.2.1 43 = .ok (.aload_n 0, 1) := by decide +kernel
theorem d_M_readLaw_44 : decode q_M_readLaw.2.1 44 = .ok (.invokevirtual 170, 3) := by decide +kernel
theorem ml_M_170 : rx_CV "GlassRoomModel" 170 q_M_atEnd 0 := ⟨⟨(rx_s6 126 rfl rfl), (rx_s6 128 rfl rfl), (rx_s0 45 rfl rfl)⟩, ⟨(rx_s1 13 rfl rfl), q_M_atEnd_k, ⟨by decide, by decide, by decide +kernel⟩, by decide⟩⟩
theorem d_M_readLaw_47 : decode q_M_readLaw.2.1 47 = .ok (.ireturn, 1) := by decide +kernel
set_option maxHeartbeats 4000000 in
set_option maxRecDepth 20000 in
theorem w_M_closes {G : rx_Gh} {hp : rx_Hp} {F : rx_Hp → Prop} (a1 : Int32) (H : ((hp.1 0 4) = (-1) → Ev wM G 2 q_M_look [.ref 0] hp (rI fun r2 h1 => (r2 = a1 → F (rx_pf (rx_pf h1 0 3 ((h1.1 0 3) + 1)) 0 5 ((h1.1 0 5) - 1))) ∧ (¬ r2 = a1 → F (rx_pf (rx_pf (g_M_bad h1) 0 3 (((g_M_bad h1).1 0 3) + 1)) 0 5 (((g_M_bad h1).1 0 5) - 1))))) ∧ (¬ (hp.1 0 4) = (-1) → F (rx_pf (rx_pf hp 0 3 ((hp.1 0 3) + 1)) 0 5 ((hp.1 0 5) - 1)))) : Ev wM G 3 q_M_closes [.ref 0, .int a1] hp (rV F) := by
  refine ev_of rfl (Nat.le_of_ble_eq_true rfl) rfl ?_
  show Rn wM G 3 q_M_closes 0 [some (.ref 0), some (.int a1)] [] hp (rV F)
  refine r_aload_n (i := 0) d_M_closes_0 rfl rfl ?_
  refine r_getI (b := 0) (v := hp.1 0 4) d_M_closes_1 fl_M_100 (by decide) rfl rfl rfl ?_
  refine r_iconst d_M_closes_4 ic_m1 ?_
  refine r_icmp_ne (tgt := 20) d_M_closes_5 (by decide) (fun hc_5 => ?_) (fun hc_5 => ?_)
  · replace H := H.2 hc_5
    refine r_aload_n (i := 0) d_M_closes_20 rfl rfl ?_
    refine r_dupr d_M_closes_21 ?_
    refine r_getI (b := 0) (v := hp.1 0 3) d_M_closes_22 fl_M_93 (by decide) rfl rfl rfl ?_
    refine r_iconst d_M_closes_25 ic_1 ?_
    refine r_iadd d_M_closes_26 ?_
    refine r_putI (b := 0) d_M_closes_27 fp_M_93 ⟨rfl, rfl⟩ (by decide) rfl rfl ?_
    refine r_aload_n (i := 0) d_M_closes_30 rfl rfl ?_
    refine r_dupr d_M_closes_31 ?_
    refine r_getI (b := 0) (v := hp.1 0 5) d_M_closes_32 fl_M_106 (by decide) rfl rfl rfl ?_
    refine r_iconst d_M_closes_35 ic_1 ?_
    refine r_isub d_M_closes_36 ?_
    refine r_putI (b := 0) d_M_closes_37 fp_M_106 ⟨rfl, rfl⟩ (by decide) rfl rfl ?_
    exact rV_ret d_M_closes_40 rfl H
  · replace H := H.1 hc_5
    refine r_aload_n (i := 0) d_M_closes_8 rfl rfl ?_
    refine rc_VI (b := 0) (d' := 2) [] [] d_M_closes_9 ml_M_112 rfl rfl (by decide) (by decide) rfl rfl (Nat.le_of_ble_eq_true rfl) H ?_
    intro r2 h1 H
    refine r_iload_n (i := 1) d_M_closes_12 rfl rfl ?_
    refine r_icmp_eq (tgt := 20) d_M_closes_13 (by decide) (fun hc_13 => ?_) (fun hc_13 => ?_)
    · replace H := H.1 hc_13
      refine r_aload_n (i := 0) d_M_closes_20 rfl rfl ?_
      refine r_dupr d_M_closes_21 ?_
      refine r_getI (b := 0) (v := h1.1 0 3) d_M_closes_22 fl_M_93 (by decide) rfl rfl rfl ?_
      refine r_iconst d_M_closes_25 ic_1 ?_
      refine r_iadd d_M_closes_26 ?_
      refine r_putI (b := 0) d_M_closes_27 fp_M_93 ⟨rfl, rfl⟩ (by decide) rfl rfl ?_
      refine r_aload_n (i := 0) d_M_closes_30 rfl rfl ?_
      refine r_dupr d_M_closes_31 ?_
      refine r_getI (b := 0) (v := h1.1 0 5) d_M_closes_32 fl_M_106 (by decide) rfl rfl rfl ?_
      refine r_iconst d_M_closes_35 ic_1 ?_
      refine r_isub d_M_closes_36 ?_
      refine r_putI (b := 0) d_M_closes_37 fp_M_106 ⟨rfl, rfl⟩ (by decide) rfl rfl ?_
      exact rV_ret d_M_closes_40 rfl H
    · replace H := H.2 hc_13
      refine r_aload_n (i := 0) d_M_closes_16 rfl rfl ?_
      refine rk_VV (b := 0) (d' := 1) [] [] d_M_closes_17 ml_M_109 rfl rfl (by decide) (by decide) rfl rfl (Nat.le_of_ble_eq_true rfl) (s_M_bad  ?_)
      refine r_aload_n (i := 0) d_M_closes_20 rfl rfl ?_
      refine r_dupr d_M_closes_21 ?_
      refine r_getI (b := 0) (v := (g_M_bad h1).1 0 3) d_M_closes_22 fl_M_93 (by decide) rfl rfl rfl ?_
      refine r_iconst d_M_closes_25 ic_1 ?_
      refine r_iadd d_M_closes_26 ?_
      refine r_putI (b := 0) d_M_closes_27 fp_M_93 ⟨rfl, rfl⟩ (by decide) rfl rfl ?_
      refine r_aload_n (i := 0) d_M_closes_30 rfl rfl ?_
      refine r_dupr d_M_closes_31 ?_
      refine r_getI (b := 0) (v := (g_M_bad h1).1 0 5) d_M_closes_32 fl_M_106 (by decide) rfl rfl rfl ?_
      refine r_iconst d_M_closes_35 ic_1 ?_
      refine r_isub d_M_closes_36 ?_
      refine r_putI (b := 0) d_M_closes_37 fp_M_106 ⟨rfl, rfl⟩ (by decide) rfl rfl ?_
      exact rV_ret d_M_closes_40 rfl H
set_option maxHeartbeats 4000000 in
set_option maxRecDepth 20000 in
theorem w_M_atom {G : rx_Gh} {hp : rx_Hp} {F : rx_Hp → Prop}  {d : Nat} (H : Ev wM G 2 q_M_look [.ref 0] hp (rI fun r2 h1 => ((f_M_isDigit r2) = 0 → ((f_M_letterOf r2) = (-1) → (r2 = 91 → (((g_M_opens h1).1 0 4) = (-1) → Ev wM G (d + 8) q_M_sum [.ref 0] (g_M_opens h1) (rV fun h3 => Ev wM G 3 q_M_closes [.ref 0, .int 93] h3 (rV fun h4 => F h4))) ∧ (¬ ((g_M_opens h1).1 0 4) = (-1) → F (g_M_opens h1))) ∧ (¬ r2 = 91 → F (g_M_bad h1))) ∧ (¬ (f_M_letterOf r2) = (-1) → p_M_put 1 (f_M_letterOf r2) (rx_pf h1 0 3 ((h1.1 0 3) + 1)) ∧ (F (g_M_put 1 (f_M_letterOf r2) (rx_pf h1 0 3 ((h1.1 0 3) + 1)))))) ∧ (¬ (f_M_isDigit r2) = 0 → Ev wM G 2 q_M_plainNumber [.ref 0] h1 (rI fun r6 h5 => p_M_put 0 r6 h5 ∧ (F (g_M_put 0 r6 h5)))))) : Ev wM G (d + 10) q_M_atom [.ref 0] hp (rV F) := by
  refine ev_of rfl (Nat.le_of_ble_eq_true rfl) rfl ?_
  show Rn wM G (d + 10) q_M_atom 0 [some (.ref 0), none] [] hp (rV F)
  refine r_aload_n (i := 0) d_M_atom_0 rfl rfl ?_
  refine rc_VI (b := 0) (d' := 2) [] [] d_M_atom_1 ml_M_112 rfl rfl (by omega) (by decide) rfl rfl (Nat.le_of_ble_eq_true rfl) H ?_
  intro r2 h1 H
  refine r_istore_n (i := 1) (lz := [some (.ref 0), some (.int r2)]) d_M_atom_4 rfl (by decide) rfl rfl ?_
  refine r_iload_n (i := 1) d_M_atom_5 rfl rfl ?_
  refine rk_SI (d' := 1) [.int r2] [] d_M_atom_6 ml_M_115 rfl rfl (by omega) (Nat.le_of_ble_eq_true rfl) (s_M_isDigit r2 ?_)
  refine r_if_eq (tgt := 24) d_M_atom_9 (by decide) (fun hc_9 => ?_) (fun hc_9 => ?_)
  · replace H := H.1 hc_9
    refine r_iload_n (i := 1) d_M_atom_24 rfl rfl ?_
    refine rk_SI (d' := 1) [.int r2] [] d_M_atom_25 ml_M_126 rfl rfl (by omega) (Nat.le_of_ble_eq_true rfl) (s_M_letterOf r2 ?_)
    refine r_iconst d_M_atom_28 ic_m1 ?_
    refine r_icmp_eq (tgt := 54) d_M_atom_29 (by decide) (fun hc_29 => ?_) (fun hc_29 => ?_)
    · replace H := H.1 hc_29
      refine r_iload_n (i := 1) d_M_atom_54 rfl rfl ?_
      refine r_bipush d_M_atom_55 bp_91 ?_
      refine r_icmp_ne (tgt := 85) d_M_atom_57 (by decide) (fun hc_57 => ?_) (fun hc_57 => ?_)
      · replace H := H.2 hc_57
        refine r_aload_n (i := 0) d_M_atom_85 rfl rfl ?_
        refine rk_VV (b := 0) (d' := 1) [] [] d_M_atom_86 ml_M_109 rfl rfl (by omega) (by decide) rfl rfl (Nat.le_of_ble_eq_true rfl) (s_M_bad  ?_)
        exact rV_ret d_M_atom_89 rfl H
      · replace H := H.1 hc_57
        refine r_aload_n (i := 0) d_M_atom_60 rfl rfl ?_
        refine rk_VV (b := 0) (d' := 2) [] [] d_M_atom_61 ml_M_130 rfl rfl (by omega) (by decide) rfl rfl (Nat.le_of_ble_eq_true rfl) (s_M_opens  ?_)
        refine r_aload_n (i := 0) d_M_atom_64 rfl rfl ?_
        refine r_getI (b := 0) (v := (g_M_opens h1).1 0 4) d_M_atom_65 fl_M_100 (by decide) rfl rfl rfl ?_
        refine r_iconst d_M_atom_68 ic_m1 ?_
        refine r_icmp_ne (tgt := 89) d_M_atom_69 (by decide) (fun hc_69 => ?_) (fun hc_69 => ?_)
        · replace H := H.2 hc_69
          exact rV_ret d_M_atom_89 rfl H
        · replace H := H.1 hc_69
          refine r_aload_n (i := 0) d_M_atom_72 rfl rfl ?_
          refine rc_VV (b := 0) (d' := (d + 8)) [] [] d_M_atom_73 ml_M_133 rfl rfl (by omega) (by decide) rfl rfl (Nat.le_of_ble_eq_true rfl) H ?_
          intro h3 H
          refine r_aload_n (i := 0) d_M_atom_76 rfl rfl ?_
          refine r_bipush d_M_atom_77 bp_93 ?_
          refine rc_VV (b := 0) (d' := 3) [.int 93] [] d_M_atom_79 ml_M_136 rfl rfl (by omega) (by decide) rfl rfl (Nat.le_of_ble_eq_true rfl) H ?_
          intro h4 H
          refine r_goto (tgt := 89) d_M_atom_82 (by decide) ?_
          exact rV_ret d_M_atom_89 rfl H
    · replace H := H.2 hc_29
      refine r_aload_n (i := 0) d_M_atom_32 rfl rfl ?_
      refine r_dupr d_M_atom_33 ?_
      refine r_getI (b := 0) (v := h1.1 0 3) d_M_atom_34 fl_M_93 (by decide) rfl rfl rfl ?_
      refine r_iconst d_M_atom_37 ic_1 ?_
      refine r_iadd d_M_atom_38 ?_
      refine r_putI (b := 0) d_M_atom_39 fp_M_93 ⟨rfl, rfl⟩ (by decide) rfl rfl ?_
      refine r_aload_n (i := 0) d_M_atom_42 rfl rfl ?_
      refine r_iconst d_M_atom_43 ic_1 ?_
      refine r_iload_n (i := 1) d_M_atom_44 rfl rfl ?_
      refine rk_SI (d' := 1) [.int r2] [.int 1, .ref 0] d_M_atom_45 ml_M_126 rfl rfl (by omega) (Nat.le_of_ble_eq_true rfl) (s_M_letterOf r2 ?_)
      obtain ⟨hp_48_0, H⟩ := H
      refine rk_VV (b := 0) (d' := 1) [.int 1, .int (f_M_letterOf r2)] [] d_M_atom_48 ml_M_122 rfl rfl (by omega) (by decide) rfl rfl (Nat.le_of_ble_eq_true rfl) (s_M_put 1 (f_M_letterOf r2) hp_48_0 ?_)
      refine r_goto (tgt := 89) d_M_atom_51 (by decide) ?_
      exact rV_ret d_M_atom_89 rfl H
  · replace H := H.2 hc_9
    refine r_aload_n (i := 0) d_M_atom_12 rfl rfl ?_
    refine r_iconst d_M_atom_13 ic_0 ?_
    refine r_aload_n (i := 0) d_M_atom_14 rfl rfl ?_
    refine rc_VI (b := 0) (d' := 2) [] [.int 0, .ref 0] d_M_atom_15 ml_M_119 rfl rfl (by omega) (by decide) rfl rfl (Nat.le_of_ble_eq_true rfl) H ?_
    intro r6 h5 H
    obtain ⟨hp_18_0, H⟩ := H
    refine rk_VV (b := 0) (d' := 1) [.int 0, .int r6] [] d_M_atom_18 ml_M_122 rfl rfl (by omega) (by decide) rfl rfl (Nat.le_of_ble_eq_true rfl) (s_M_put 0 r6 hp_18_0 ?_)
    refine r_goto (tgt := 89) d_M_atom_21 (by decide) ?_
    exact rV_ret d_M_atom_89 rfl H
set_option maxHeartbeats 4000000 in
set_option maxRecDepth 20000 in
theorem w_M_term {G : rx_Gh} {hp : rx_Hp} {F : rx_Hp → Prop}  {d : Nat} (H : Ev wM G (d + 10) q_M_atom [.ref 0] hp (rV fun h1 => ((h1.1 0 4) = (-1) → Ev wM G 2 q_M_look [.ref 0] h1 (rI fun r3 h2 => Rn wM G (d + 11) q_M_term 21 [some (.ref 0), some (.int r3)] [] h2 (rV F))) ∧ (¬ (h1.1 0 4) = (-1) → Rn wM G (d + 11) q_M_term 21 [some (.ref 0), some (.int (-1))] [] h1 (rV F)))) : Ev wM G (d + 11) q_M_term [.ref 0] hp (rV F) := by
  refine ev_of rfl (Nat.le_of_ble_eq_true rfl) rfl ?_
  show Rn wM G (d + 11) q_M_term 0 [some (.ref 0), none] [] hp (rV F)
  refine r_aload_n (i := 0) d_M_term_0 rfl rfl ?_
  refine rc_VV (b := 0) (d' := (d + 10)) [] [] d_M_term_1 ml_M_140 rfl rfl (by omega) (by decide) rfl rfl (Nat.le_of_ble_eq_true rfl) H ?_
  intro h1 H
  refine r_aload_n (i := 0) d_M_term_4 rfl rfl ?_
  refine r_getI (b := 0) (v := h1.1 0 4) d_M_term_5 fl_M_100 (by decide) rfl rfl rfl ?_
  refine r_iconst d_M_term_8 ic_m1 ?_
  refine r_icmp_ne (tgt := 19) d_M_term_9 (by decide) (fun hc_9 => ?_) (fun hc_9 => ?_)
  · replace H := H.2 hc_9
    refine r_iconst d_M_term_19 ic_m1 ?_
    refine r_istore_n (i := 1) (lz := [some (.ref 0), some (.int (-1))]) d_M_term_20 rfl (by decide) rfl rfl ?_
    exact H
  · replace H := H.1 hc_9
    refine r_aload_n (i := 0) d_M_term_12 rfl rfl ?_
    refine rc_VI (b := 0) (d' := 2) [] [] d_M_term_13 ml_M_112 rfl rfl (by omega) (by decide) rfl rfl (Nat.le_of_ble_eq_true rfl) H ?_
    intro r3 h2 H
    refine r_goto (tgt := 20) d_M_term_16 (by decide) ?_
    refine r_istore_n (i := 1) (lz := [some (.ref 0), some (.int r3)]) d_M_term_20 rfl (by decide) rfl rfl ?_
    exact H
set_option maxHeartbeats 4000000 in
set_option maxRecDepth 20000 in
theorem w_M_term_21 {G : rx_Gh} {hp : rx_Hp} {F : rx_Hp → Prop} (x1 : Int32) {d : Nat} (H : (x1 = 42 → Ev wM G (d + 10) q_M_atom [.ref 0] (rx_pf hp 0 3 ((hp.1 0 3) + 1)) (rV fun h1 => p_M_put 4 0 h1 ∧ ((((g_M_put 4 0 h1).1 0 4) = (-1) → Ev wM G 2 q_M_look [.ref 0] (g_M_put 4 0 h1) (rI fun r3 h2 => Rn wM G (d + 11) q_M_term 21 [some (.ref 0), some (.int r3)] [] h2 (rV F))) ∧ (¬ ((g_M_put 4 0 h1).1 0 4) = (-1) → Rn wM G (d + 11) q_M_term 21 [some (.ref 0), some (.int (-1))] [] (g_M_put 4 0 h1) (rV F))))) ∧ (¬ x1 = 42 → (x1 = 47 → Ev wM G (d + 10) q_M_atom [.ref 0] (rx_pf hp 0 3 ((hp.1 0 3) + 1)) (rV fun h4 => p_M_put 5 0 h4 ∧ ((((g_M_put 5 0 h4).1 0 4) = (-1) → Ev wM G 2 q_M_look [.ref 0] (g_M_put 5 0 h4) (rI fun r6 h5 => Rn wM G (d + 11) q_M_term 21 [some (.ref 0), some (.int r6)] [] h5 (rV F))) ∧ (¬ ((g_M_put 5 0 h4).1 0 4) = (-1) → Rn wM G (d + 11) q_M_term 21 [some (.ref 0), some (.int (-1))] [] (g_M_put 5 0 h4) (rV F))))) ∧ (¬ x1 = 47 → F hp))) : Rn wM G (d + 11) q_M_term 21 [some (.ref 0), some (.int x1)] [] hp (rV F) := by
  refine r_iload_n (i := 1) d_M_term_21 rfl rfl ?_
  refine r_bipush d_M_term_22 bp_42 ?_
  refine r_icmp_eq (tgt := 33) d_M_term_24 (by decide) (fun hc_24 => ?_) (fun hc_24 => ?_)
  · replace H := H.1 hc_24
    refine r_aload_n (i := 0) d_M_term_33 rfl rfl ?_
    refine r_dupr d_M_term_34 ?_
    refine r_getI (b := 0) (v := hp.1 0 3) d_M_term_35 fl_M_93 (by decide) rfl rfl rfl ?_
    refine r_iconst d_M_term_38 ic_1 ?_
    refine r_iadd d_M_term_39 ?_
    refine r_putI (b := 0) d_M_term_40 fp_M_93 ⟨rfl, rfl⟩ (by decide) rfl rfl ?_
    refine r_aload_n (i := 0) d_M_term_43 rfl rfl ?_
    refine rc_VV (b := 0) (d' := (d + 10)) [] [] d_M_term_44 ml_M_140 rfl rfl (by omega) (by decide) rfl rfl (Nat.le_of_ble_eq_true rfl) H ?_
    intro h1 H
    refine r_aload_n (i := 0) d_M_term_47 rfl rfl ?_
    refine r_iload_n (i := 1) d_M_term_48 rfl rfl ?_
    refine r_bipush d_M_term_49 bp_42 ?_
    refine r_icmp_ne (tgt := 58) d_M_term_51 (by decide) (fun h => absurd hc_24 h) (fun _ => ?_)
    refine r_iconst d_M_term_54 ic_4 ?_
    refine r_goto (tgt := 59) d_M_term_55 (by decide) ?_
    refine r_iconst d_M_term_59 ic_0 ?_
    obtain ⟨hp_60_0, H⟩ := H
    refine rk_VV (b := 0) (d' := 1) [.int 4, .int 0] [] d_M_term_60 ml_M_122 rfl rfl (by omega) (by decide) rfl rfl (Nat.le_of_ble_eq_true rfl) (s_M_put 4 0 hp_60_0 ?_)
    refine r_aload_n (i := 0) d_M_term_63 rfl rfl ?_
    refine r_getI (b := 0) (v := (g_M_put 4 0 h1).1 0 4) d_M_term_64 fl_M_100 (by decide) rfl rfl rfl ?_
    refine r_iconst d_M_term_67 ic_m1 ?_
    refine r_icmp_ne (tgt := 78) d_M_term_68 (by decide) (fun hc_68 => ?_) (fun hc_68 => ?_)
    · replace H := H.2 hc_68
      refine r_iconst d_M_term_78 ic_m1 ?_
      refine r_istore_n (i := 1) (lz := [some (.ref 0), some (.int (-1))]) d_M_term_79 rfl (by decide) rfl rfl ?_
      refine r_goto (tgt := 21) d_M_term_80 (by decide) ?_
      exact H
    · replace H := H.1 hc_68
      refine r_aload_n (i := 0) d_M_term_71 rfl rfl ?_
      refine rc_VI (b := 0) (d' := 2) [] [] d_M_term_72 ml_M_112 rfl rfl (by omega) (by decide) rfl rfl (Nat.le_of_ble_eq_true rfl) H ?_
      intro r3 h2 H
      refine r_goto (tgt := 79) d_M_term_75 (by decide) ?_
      refine r_istore_n (i := 1) (lz := [some (.ref 0), some (.int r3)]) d_M_term_79 rfl (by decide) rfl rfl ?_
      refine r_goto (tgt := 21) d_M_term_80 (by decide) ?_
      exact H
  · replace H := H.2 hc_24
    refine r_iload_n (i := 1) d_M_term_27 rfl rfl ?_
    refine r_bipush d_M_term_28 bp_47 ?_
    refine r_icmp_ne (tgt := 83) d_M_term_30 (by decide) (fun hc_30 => ?_) (fun hc_30 => ?_)
    · replace H := H.2 hc_30
      exact rV_ret d_M_term_83 rfl H
    · replace H := H.1 hc_30
      refine r_aload_n (i := 0) d_M_term_33 rfl rfl ?_
      refine r_dupr d_M_term_34 ?_
      refine r_getI (b := 0) (v := hp.1 0 3) d_M_term_35 fl_M_93 (by decide) rfl rfl rfl ?_
      refine r_iconst d_M_term_38 ic_1 ?_
      refine r_iadd d_M_term_39 ?_
      refine r_putI (b := 0) d_M_term_40 fp_M_93 ⟨rfl, rfl⟩ (by decide) rfl rfl ?_
      refine r_aload_n (i := 0) d_M_term_43 rfl rfl ?_
      refine rc_VV (b := 0) (d' := (d + 10)) [] [] d_M_term_44 ml_M_140 rfl rfl (by omega) (by decide) rfl rfl (Nat.le_of_ble_eq_true rfl) H ?_
      intro h4 H
      refine r_aload_n (i := 0) d_M_term_47 rfl rfl ?_
      refine r_iload_n (i := 1) d_M_term_48 rfl rfl ?_
      refine r_bipush d_M_term_49 bp_42 ?_
      refine r_icmp_ne (tgt := 58) d_M_term_51 (by decide) (fun _ => ?_) (fun h => absurd h hc_24)
      refine r_iconst d_M_term_58 ic_5 ?_
      refine r_iconst d_M_term_59 ic_0 ?_
      obtain ⟨hp_60_0, H⟩ := H
      refine rk_VV (b := 0) (d' := 1) [.int 5, .int 0] [] d_M_term_60 ml_M_122 rfl rfl (by omega) (by decide) rfl rfl (Nat.le_of_ble_eq_true rfl) (s_M_put 5 0 hp_60_0 ?_)
      refine r_aload_n (i := 0) d_M_term_63 rfl rfl ?_
      refine r_getI (b := 0) (v := (g_M_put 5 0 h4).1 0 4) d_M_term_64 fl_M_100 (by decide) rfl rfl rfl ?_
      refine r_iconst d_M_term_67 ic_m1 ?_
      refine r_icmp_ne (tgt := 78) d_M_term_68 (by decide) (fun hc_68 => ?_) (fun hc_68 => ?_)
      · replace H := H.2 hc_68
        refine r_iconst d_M_term_78 ic_m1 ?_
        refine r_istore_n (i := 1) (lz := [some (.ref 0), some (.int (-1))]) d_M_term_79 rfl (by decide) rfl rfl ?_
        refine r_goto (tgt := 21) d_M_term_80 (by decide) ?_
        exact H
      · replace H := H.1 hc_68
        refine r_aload_n (i := 0) d_M_term_71 rfl rfl ?_
        refine rc_VI (b := 0) (d' := 2) [] [] d_M_term_72 ml_M_112 rfl rfl (by omega) (by decide) rfl rfl (Nat.le_of_ble_eq_true rfl) H ?_
        intro r6 h5 H
        refine r_goto (tgt := 79) d_M_term_75 (by decide) ?_
        refine r_istore_n (i := 1) (lz := [some (.ref 0), some (.int r6)]) d_M_term_79 rfl (by decide) rfl rfl ?_
        refine r_goto (tgt := 21) d_M_term_80 (by decide) ?_
        exact H
set_option maxHeartbeats 4000000 in
set_option maxRecDepth 20000 in
theorem w_M_sum {G : rx_Gh} {hp : rx_Hp} {F : rx_Hp → Prop}  {d : Nat} (H : Ev wM G (d + 11) q_M_term [.ref 0] hp (rV fun h1 => ((h1.1 0 4) = (-1) → Ev wM G 2 q_M_look [.ref 0] h1 (rI fun r3 h2 => Rn wM G (d + 12) q_M_sum 21 [some (.ref 0), some (.int r3)] [] h2 (rV F))) ∧ (¬ (h1.1 0 4) = (-1) → Rn wM G (d + 12) q_M_sum 21 [some (.ref 0), some (.int (-1))] [] h1 (rV F)))) : Ev wM G (d + 12) q_M_sum [.ref 0] hp (rV F) := by
  refine ev_of rfl (Nat.le_of_ble_eq_true rfl) rfl ?_
  show Rn wM G (d + 12) q_M_sum 0 [some (.ref 0), none] [] hp (rV F)
  refine r_aload_n (i := 0) d_M_sum_0 rfl rfl ?_
  refine rc_VV (b := 0) (d' := (d + 11)) [] [] d_M_sum_1 ml_M_143 rfl rfl (by omega) (by decide) rfl rfl (Nat.le_of_ble_eq_true rfl) H ?_
  intro h1 H
  refine r_aload_n (i := 0) d_M_sum_4 rfl rfl ?_
  refine r_getI (b := 0) (v := h1.1 0 4) d_M_sum_5 fl_M_100 (by decide) rfl rfl rfl ?_
  refine r_iconst d_M_sum_8 ic_m1 ?_
  refine r_icmp_ne (tgt := 19) d_M_sum_9 (by decide) (fun hc_9 => ?_) (fun hc_9 => ?_)
  · replace H := H.2 hc_9
    refine r_iconst d_M_sum_19 ic_m1 ?_
    refine r_istore_n (i := 1) (lz := [some (.ref 0), some (.int (-1))]) d_M_sum_20 rfl (by decide) rfl rfl ?_
    exact H
  · replace H := H.1 hc_9
    refine r_aload_n (i := 0) d_M_sum_12 rfl rfl ?_
    refine rc_VI (b := 0) (d' := 2) [] [] d_M_sum_13 ml_M_112 rfl rfl (by omega) (by decide) rfl rfl (Nat.le_of_ble_eq_true rfl) H ?_
    intro r3 h2 H
    refine r_goto (tgt := 20) d_M_sum_16 (by decide) ?_
    refine r_istore_n (i := 1) (lz := [some (.ref 0), some (.int r3)]) d_M_sum_20 rfl (by decide) rfl rfl ?_
    exact H
set_option maxHeartbeats 4000000 in
set_option maxRecDepth 20000 in
theorem w_M_sum_21 {G : rx_Gh} {hp : rx_Hp} {F : rx_Hp → Prop} (x1 : Int32) {d : Nat} (H : (x1 = 43 → Ev wM G (d + 11) q_M_term [.ref 0] (rx_pf hp 0 3 ((hp.1 0 3) + 1)) (rV fun h1 => p_M_put 2 0 h1 ∧ ((((g_M_put 2 0 h1).1 0 4) = (-1) → Ev wM G 2 q_M_look [.ref 0] (g_M_put 2 0 h1) (rI fun r3 h2 => Rn wM G (d + 12) q_M_sum 21 [some (.ref 0), some (.int r3)] [] h2 (rV F))) ∧ (¬ ((g_M_put 2 0 h1).1 0 4) = (-1) → Rn wM G (d + 12) q_M_sum 21 [some (.ref 0), some (.int (-1))] [] (g_M_put 2 0 h1) (rV F))))) ∧ (¬ x1 = 43 → (x1 = 45 → Ev wM G (d + 11) q_M_term [.ref 0] (rx_pf hp 0 3 ((hp.1 0 3) + 1)) (rV fun h4 => p_M_put 3 0 h4 ∧ ((((g_M_put 3 0 h4).1 0 4) = (-1) → Ev wM G 2 q_M_look [.ref 0] (g_M_put 3 0 h4) (rI fun r6 h5 => Rn wM G (d + 12) q_M_sum 21 [some (.ref 0), some (.int r6)] [] h5 (rV F))) ∧ (¬ ((g_M_put 3 0 h4).1 0 4) = (-1) → Rn wM G (d + 12) q_M_sum 21 [some (.ref 0), some (.int (-1))] [] (g_M_put 3 0 h4) (rV F))))) ∧ (¬ x1 = 45 → F hp))) : Rn wM G (d + 12) q_M_sum 21 [some (.ref 0), some (.int x1)] [] hp (rV F) := by
  refine r_iload_n (i := 1) d_M_sum_21 rfl rfl ?_
  refine r_bipush d_M_sum_22 bp_43 ?_
  refine r_icmp_eq (tgt := 33) d_M_sum_24 (by decide) (fun hc_24 => ?_) (fun hc_24 => ?_)
  · replace H := H.1 hc_24
    refine r_aload_n (i := 0) d_M_sum_33 rfl rfl ?_
    refine r_dupr d_M_sum_34 ?_
    refine r_getI (b := 0) (v := hp.1 0 3) d_M_sum_35 fl_M_93 (by decide) rfl rfl rfl ?_
    refine r_iconst d_M_sum_38 ic_1 ?_
    refine r_iadd d_M_sum_39 ?_
    refine r_putI (b := 0) d_M_sum_40 fp_M_93 ⟨rfl, rfl⟩ (by decide) rfl rfl ?_
    refine r_aload_n (i := 0) d_M_sum_43 rfl rfl ?_
    refine rc_VV (b := 0) (d' := (d + 11)) [] [] d_M_sum_44 ml_M_143 rfl rfl (by omega) (by decide) rfl rfl (Nat.le_of_ble_eq_true rfl) H ?_
    intro h1 H
    refine r_aload_n (i := 0) d_M_sum_47 rfl rfl ?_
    refine r_iload_n (i := 1) d_M_sum_48 rfl rfl ?_
    refine r_bipush d_M_sum_49 bp_43 ?_
    refine r_icmp_ne (tgt := 58) d_M_sum_51 (by decide) (fun h => absurd hc_24 h) (fun _ => ?_)
    refine r_iconst d_M_sum_54 ic_2 ?_
    refine r_goto (tgt := 59) d_M_sum_55 (by decide) ?_
    refine r_iconst d_M_sum_59 ic_0 ?_
    obtain ⟨hp_60_0, H⟩ := H
    refine rk_VV (b := 0) (d' := 1) [.int 2, .int 0] [] d_M_sum_60 ml_M_122 rfl rfl (by omega) (by decide) rfl rfl (Nat.le_of_ble_eq_true rfl) (s_M_put 2 0 hp_60_0 ?_)
    refine r_aload_n (i := 0) d_M_sum_63 rfl rfl ?_
    refine r_getI (b := 0) (v := (g_M_put 2 0 h1).1 0 4) d_M_sum_64 fl_M_100 (by decide) rfl rfl rfl ?_
    refine r_iconst d_M_sum_67 ic_m1 ?_
    refine r_icmp_ne (tgt := 78) d_M_sum_68 (by decide) (fun hc_68 => ?_) (fun hc_68 => ?_)
    · replace H := H.2 hc_68
      refine r_iconst d_M_sum_78 ic_m1 ?_
      refine r_istore_n (i := 1) (lz := [some (.ref 0), some (.int (-1))]) d_M_sum_79 rfl (by decide) rfl rfl ?_
      refine r_goto (tgt := 21) d_M_sum_80 (by decide) ?_
      exact H
    · replace H := H.1 hc_68
      refine r_aload_n (i := 0) d_M_sum_71 rfl rfl ?_
      refine rc_VI (b := 0) (d' := 2) [] [] d_M_sum_72 ml_M_112 rfl rfl (by omega) (by decide) rfl rfl (Nat.le_of_ble_eq_true rfl) H ?_
      intro r3 h2 H
      refine r_goto (tgt := 79) d_M_sum_75 (by decide) ?_
      refine r_istore_n (i := 1) (lz := [some (.ref 0), some (.int r3)]) d_M_sum_79 rfl (by decide) rfl rfl ?_
      refine r_goto (tgt := 21) d_M_sum_80 (by decide) ?_
      exact H
  · replace H := H.2 hc_24
    refine r_iload_n (i := 1) d_M_sum_27 rfl rfl ?_
    refine r_bipush d_M_sum_28 bp_45 ?_
    refine r_icmp_ne (tgt := 83) d_M_sum_30 (by decide) (fun hc_30 => ?_) (fun hc_30 => ?_)
    · replace H := H.2 hc_30
      exact rV_ret d_M_sum_83 rfl H
    · replace H := H.1 hc_30
      refine r_aload_n (i := 0) d_M_sum_33 rfl rfl ?_
      refine r_dupr d_M_sum_34 ?_
      refine r_getI (b := 0) (v := hp.1 0 3) d_M_sum_35 fl_M_93 (by decide) rfl rfl rfl ?_
      refine r_iconst d_M_sum_38 ic_1 ?_
      refine r_iadd d_M_sum_39 ?_
      refine r_putI (b := 0) d_M_sum_40 fp_M_93 ⟨rfl, rfl⟩ (by decide) rfl rfl ?_
      refine r_aload_n (i := 0) d_M_sum_43 rfl rfl ?_
      refine rc_VV (b := 0) (d' := (d + 11)) [] [] d_M_sum_44 ml_M_143 rfl rfl (by omega) (by decide) rfl rfl (Nat.le_of_ble_eq_true rfl) H ?_
      intro h4 H
      refine r_aload_n (i := 0) d_M_sum_47 rfl rfl ?_
      refine r_iload_n (i := 1) d_M_sum_48 rfl rfl ?_
      refine r_bipush d_M_sum_49 bp_43 ?_
      refine r_icmp_ne (tgt := 58) d_M_sum_51 (by decide) (fun _ => ?_) (fun h => absurd h hc_24)
      refine r_iconst d_M_sum_58 ic_3 ?_
      refine r_iconst d_M_sum_59 ic_0 ?_
      obtain ⟨hp_60_0, H⟩ := H
      refine rk_VV (b := 0) (d' := 1) [.int 3, .int 0] [] d_M_sum_60 ml_M_122 rfl rfl (by omega) (by decide) rfl rfl (Nat.le_of_ble_eq_true rfl) (s_M_put 3 0 hp_60_0 ?_)
      refine r_aload_n (i := 0) d_M_sum_63 rfl rfl ?_
      refine r_getI (b := 0) (v := (g_M_put 3 0 h4).1 0 4) d_M_sum_64 fl_M_100 (by decide) rfl rfl rfl ?_
      refine r_iconst d_M_sum_67 ic_m1 ?_
      refine r_icmp_ne (tgt := 78) d_M_sum_68 (by decide) (fun hc_68 => ?_) (fun hc_68 => ?_)
      · replace H := H.2 hc_68
        refine r_iconst d_M_sum_78 ic_m1 ?_
        refine r_istore_n (i := 1) (lz := [some (.ref 0), some (.int (-1))]) d_M_sum_79 rfl (by decide) rfl rfl ?_
        refine r_goto (tgt := 21) d_M_sum_80 (by decide) ?_
        exact H
      · replace H := H.1 hc_68
        refine r_aload_n (i := 0) d_M_sum_71 rfl rfl ?_
        refine rc_VI (b := 0) (d' := 2) [] [] d_M_sum_72 ml_M_112 rfl rfl (by omega) (by decide) rfl rfl (Nat.le_of_ble_eq_true rfl) H ?_
        intro r6 h5 H
        refine r_goto (tgt := 79) d_M_sum_75 (by decide) ?_
        refine r_istore_n (i := 1) (lz := [some (.ref 0), some (.int r6)]) d_M_sum_79 rfl (by decide) rfl rfl ?_
        refine r_goto (tgt := 21) d_M_sum_80 (by decide) ?_
        exact H
set_option maxHeartbeats 4000000 in
set_option maxRecDepth 20000 in
theorem w_M_compare {G : rx_Gh} {hp : rx_Hp} {F : rx_Hp → Prop}  {d : Nat} (H : ((hp.1 0 4) = (-1) → Ev wM G 2 q_M_look [.ref 0] hp (rI fun r2 h1 => ((f_M_isSign r2) = 0 → F (g_M_bad h1)) ∧ (¬ (f_M_isSign r2) = 0 → Ev wM G (d + 12) q_M_sum [.ref 0] (rx_pf h1 0 3 ((h1.1 0 3) + 1)) (rV fun h3 => p_M_put ((if r2 = 61 then 6 else ((if r2 = 60 then 7 else 8) : Int32)) : Int32) 0 h3 ∧ (F (g_M_put ((if r2 = 61 then 6 else ((if r2 = 60 then 7 else 8) : Int32)) : Int32) 0 h3)))))) ∧ (¬ (hp.1 0 4) = (-1) → ((f_M_isSign (-1)) = 0 → F (g_M_bad hp)) ∧ (¬ (f_M_isSign (-1)) = 0 → Ev wM G (d + 12) q_M_sum [.ref 0] (rx_pf hp 0 3 ((hp.1 0 3) + 1)) (rV fun h4 => p_M_put 8 0 h4 ∧ (F (g_M_put 8 0 h4)))))) : Ev wM G (d + 13) q_M_compare [.ref 0] hp (rV F) := by
  refine ev_of rfl (Nat.le_of_ble_eq_true rfl) rfl ?_
  show Rn wM G (d + 13) q_M_compare 0 [some (.ref 0), none] [] hp (rV F)
  refine r_aload_n (i := 0) d_M_compare_0 rfl rfl ?_
  refine r_getI (b := 0) (v := hp.1 0 4) d_M_compare_1 fl_M_100 (by decide) rfl rfl rfl ?_
  refine r_iconst d_M_compare_4 ic_m1 ?_
  refine r_icmp_ne (tgt := 15) d_M_compare_5 (by decide) (fun hc_5 => ?_) (fun hc_5 => ?_)
  · replace H := H.2 hc_5
    refine r_iconst d_M_compare_15 ic_m1 ?_
    refine r_istore_n (i := 1) (lz := [some (.ref 0), some (.int (-1))]) d_M_compare_16 rfl (by decide) rfl rfl ?_
    refine r_iload_n (i := 1) d_M_compare_17 rfl rfl ?_
    refine rk_SI (d' := 1) [.int (-1)] [] d_M_compare_18 ml_M_146 rfl rfl (by omega) (Nat.le_of_ble_eq_true rfl) (s_M_isSign (-1) ?_)
    refine r_if_ne (tgt := 29) d_M_compare_21 (by decide) (fun hc_21 => ?_) (fun hc_21 => ?_)
    · replace H := H.2 hc_21
      refine r_aload_n (i := 0) d_M_compare_29 rfl rfl ?_
      refine r_dupr d_M_compare_30 ?_
      refine r_getI (b := 0) (v := hp.1 0 3) d_M_compare_31 fl_M_93 (by decide) rfl rfl rfl ?_
      refine r_iconst d_M_compare_34 ic_1 ?_
      refine r_iadd d_M_compare_35 ?_
      refine r_putI (b := 0) d_M_compare_36 fp_M_93 ⟨rfl, rfl⟩ (by decide) rfl rfl ?_
      refine r_aload_n (i := 0) d_M_compare_39 rfl rfl ?_
      refine rc_VV (b := 0) (d' := (d + 12)) [] [] d_M_compare_40 ml_M_133 rfl rfl (by omega) (by decide) rfl rfl (Nat.le_of_ble_eq_true rfl) H ?_
      intro h4 H
      refine r_aload_n (i := 0) d_M_compare_43 rfl rfl ?_
      refine r_iload_n (i := 1) d_M_compare_44 rfl rfl ?_
      refine r_bipush d_M_compare_45 bp_61 ?_
      refine r_icmp_ne (tgt := 55) d_M_compare_47 (by decide) (fun _ => ?_) (fun h => absurd h (by decide))
      refine r_iload_n (i := 1) d_M_compare_55 rfl rfl ?_
      refine r_bipush d_M_compare_56 bp_60 ?_
      refine r_icmp_ne (tgt := 66) d_M_compare_58 (by decide) (fun _ => ?_) (fun h => absurd h (by decide))
      refine r_bipush d_M_compare_66 bp_8 ?_
      refine r_iconst d_M_compare_68 ic_0 ?_
      obtain ⟨hp_69_0, H⟩ := H
      refine rk_VV (b := 0) (d' := 1) [.int 8, .int 0] [] d_M_compare_69 ml_M_122 rfl rfl (by omega) (by decide) rfl rfl (Nat.le_of_ble_eq_true rfl) (s_M_put 8 0 hp_69_0 ?_)
      exact rV_ret d_M_compare_72 rfl H
    · replace H := H.1 hc_21
      refine r_aload_n (i := 0) d_M_compare_24 rfl rfl ?_
      refine rk_VV (b := 0) (d' := 1) [] [] d_M_compare_25 ml_M_109 rfl rfl (by omega) (by decide) rfl rfl (Nat.le_of_ble_eq_true rfl) (s_M_bad  ?_)
      exact rV_ret d_M_compare_28 rfl H
  · replace H := H.1 hc_5
    refine r_aload_n (i := 0) d_M_compare_8 rfl rfl ?_
    refine rc_VI (b := 0) (d' := 2) [] [] d_M_compare_9 ml_M_112 rfl rfl (by omega) (by decide) rfl rfl (Nat.le_of_ble_eq_true rfl) H ?_
    intro r2 h1 H
    refine r_goto (tgt := 16) d_M_compare_12 (by decide) ?_
    refine r_istore_n (i := 1) (lz := [some (.ref 0), some (.int r2)]) d_M_compare_16 rfl (by decide) rfl rfl ?_
    refine r_iload_n (i := 1) d_M_compare_17 rfl rfl ?_
    refine rk_SI (d' := 1) [.int r2] [] d_M_compare_18 ml_M_146 rfl rfl (by omega) (Nat.le_of_ble_eq_true rfl) (s_M_isSign r2 ?_)
    refine r_if_ne (tgt := 29) d_M_compare_21 (by decide) (fun hc_21 => ?_) (fun hc_21 => ?_)
    · replace H := H.2 hc_21
      refine r_aload_n (i := 0) d_M_compare_29 rfl rfl ?_
      refine r_dupr d_M_compare_30 ?_
      refine r_getI (b := 0) (v := h1.1 0 3) d_M_compare_31 fl_M_93 (by decide) rfl rfl rfl ?_
      refine r_iconst d_M_compare_34 ic_1 ?_
      refine r_iadd d_M_compare_35 ?_
      refine r_putI (b := 0) d_M_compare_36 fp_M_93 ⟨rfl, rfl⟩ (by decide) rfl rfl ?_
      refine r_aload_n (i := 0) d_M_compare_39 rfl rfl ?_
      refine rc_VV (b := 0) (d' := (d + 12)) [] [] d_M_compare_40 ml_M_133 rfl rfl (by omega) (by decide) rfl rfl (Nat.le_of_ble_eq_true rfl) H ?_
      intro h3 H
      have J47 : ∀ (v47_0 : Int32), v47_0 = ((if r2 = 61 then 6 else ((if r2 = 60 then 7 else 8) : Int32)) : Int32) → Rn wM G (d + 13) q_M_compare 68 [some (.ref 0), some (.int r2)] [.int v47_0, .ref 0] h3 (rV F) := by
        rintro _ rfl
        refine r_iconst d_M_compare_68 ic_0 ?_
        obtain ⟨hp_69_0, H⟩ := H
        refine rk_VV (b := 0) (d' := 1) [.int ((if r2 = 61 then 6 else ((if r2 = 60 then 7 else 8) : Int32)) : Int32), .int 0] [] d_M_compare_69 ml_M_122 rfl rfl (by omega) (by decide) rfl rfl (Nat.le_of_ble_eq_true rfl) (s_M_put ((if r2 = 61 then 6 else ((if r2 = 60 then 7 else 8) : Int32)) : Int32) 0 hp_69_0 ?_)
        exact rV_ret d_M_compare_72 rfl H
      refine r_aload_n (i := 0) d_M_compare_43 rfl rfl ?_
      refine r_iload_n (i := 1) d_M_compare_44 rfl rfl ?_
      refine r_bipush d_M_compare_45 bp_61 ?_
      refine r_icmp_ne (tgt := 55) d_M_compare_47 (by decide) (fun hc_47 => ?_) (fun hc_47 => ?_)
      · refine r_iload_n (i := 1) d_M_compare_55 rfl rfl ?_
        refine r_bipush d_M_compare_56 bp_60 ?_
        refine r_icmp_ne (tgt := 66) d_M_compare_58 (by decide) (fun hc_58 => ?_) (fun hc_58 => ?_)
        · refine r_bipush d_M_compare_66 bp_8 ?_
          exact J47 _ (((if_neg hc_47).trans ((if_neg hc_58).trans rfl))).symm
        · refine r_bipush d_M_compare_61 bp_7 ?_
          refine r_goto (tgt := 68) d_M_compare_63 (by decide) ?_
          exact J47 _ (((if_neg hc_47).trans ((if_pos hc_58).trans rfl))).symm
      · refine r_bipush d_M_compare_50 bp_6 ?_
        refine r_goto (tgt := 68) d_M_compare_52 (by decide) ?_
        exact J47 _ (((if_pos hc_47).trans rfl)).symm
    · replace H := H.1 hc_21
      refine r_aload_n (i := 0) d_M_compare_24 rfl rfl ?_
      refine rk_VV (b := 0) (d' := 1) [] [] d_M_compare_25 ml_M_109 rfl rfl (by omega) (by decide) rfl rfl (Nat.le_of_ble_eq_true rfl) (s_M_bad  ?_)
      exact rV_ret d_M_compare_28 rfl H
set_option maxHeartbeats 4000000 in
set_option maxRecDepth 20000 in
theorem w_M_unit {G : rx_Gh} {hp : rx_Hp} {F : rx_Hp → Prop}  {d : Nat} (H : Ev wM G 2 q_M_look [.ref 0] hp (rI fun r2 h1 => (r2 = 33 → (((g_M_opens h1).1 0 4) = (-1) → Ev wM G (d + 36) q_M_unit [.ref 0] (g_M_opens h1) (rV fun h3 => p_M_put 9 0 h3 ∧ (F (rx_pf (g_M_put 9 0 h3) 0 5 (((g_M_put 9 0 h3).1 0 5) - 1))))) ∧ (¬ ((g_M_opens h1).1 0 4) = (-1) → F (g_M_opens h1))) ∧ (¬ r2 = 33 → (r2 = 40 → (((g_M_opens h1).1 0 4) = (-1) → Ev wM G (d + 39) q_M_condition [.ref 0] (g_M_opens h1) (rV fun h4 => Ev wM G 3 q_M_closes [.ref 0, .int 41] h4 (rV fun h5 => F h5))) ∧ (¬ ((g_M_opens h1).1 0 4) = (-1) → F (g_M_opens h1))) ∧ (¬ r2 = 40 → Ev wM G (d + 12) q_M_sum [.ref 0] h1 (rV fun h6 => ((h6.1 0 4) = (-1) → Ev wM G (d + 13) q_M_compare [.ref 0] h6 (rV fun h7 => F h7)) ∧ (¬ (h6.1 0 4) = (-1) → F h6)))))) : Ev wM G (d + 40) q_M_unit [.ref 0] hp (rV F) := by
  refine ev_of rfl (Nat.le_of_ble_eq_true rfl) rfl ?_
  show Rn wM G (d + 40) q_M_unit 0 [some (.ref 0), none] [] hp (rV F)
  refine r_aload_n (i := 0) d_M_unit_0 rfl rfl ?_
  refine rc_VI (b := 0) (d' := 2) [] [] d_M_unit_1 ml_M_112 rfl rfl (by omega) (by decide) rfl rfl (Nat.le_of_ble_eq_true rfl) H ?_
  intro r2 h1 H
  refine r_istore_n (i := 1) (lz := [some (.ref 0), some (.int r2)]) d_M_unit_4 rfl (by decide) rfl rfl ?_
  refine r_iload_n (i := 1) d_M_unit_5 rfl rfl ?_
  refine r_bipush d_M_unit_6 bp_33 ?_
  refine r_icmp_ne (tgt := 47) d_M_unit_8 (by decide) (fun hc_8 => ?_) (fun hc_8 => ?_)
  · replace H := H.2 hc_8
    refine r_iload_n (i := 1) d_M_unit_47 rfl rfl ?_
    refine r_bipush d_M_unit_48 bp_40 ?_
    refine r_icmp_ne (tgt := 78) d_M_unit_50 (by decide) (fun hc_50 => ?_) (fun hc_50 => ?_)
    · replace H := H.2 hc_50
      refine r_aload_n (i := 0) d_M_unit_78 rfl rfl ?_
      refine rc_VV (b := 0) (d' := (d + 12)) [] [] d_M_unit_79 ml_M_133 rfl rfl (by omega) (by decide) rfl rfl (Nat.le_of_ble_eq_true rfl) H ?_
      intro h6 H
      refine r_aload_n (i := 0) d_M_unit_82 rfl rfl ?_
      refine r_getI (b := 0) (v := h6.1 0 4) d_M_unit_83 fl_M_100 (by decide) rfl rfl rfl ?_
      refine r_iconst d_M_unit_86 ic_m1 ?_
      refine r_icmp_ne (tgt := 94) d_M_unit_87 (by decide) (fun hc_87 => ?_) (fun hc_87 => ?_)
      · replace H := H.2 hc_87
        exact rV_ret d_M_unit_94 rfl H
      · replace H := H.1 hc_87
        refine r_aload_n (i := 0) d_M_unit_90 rfl rfl ?_
        refine rc_VV (b := 0) (d' := (d + 13)) [] [] d_M_unit_91 ml_M_155 rfl rfl (by omega) (by decide) rfl rfl (Nat.le_of_ble_eq_true rfl) H ?_
        intro h7 H
        exact rV_ret d_M_unit_94 rfl H
    · replace H := H.1 hc_50
      refine r_aload_n (i := 0) d_M_unit_53 rfl rfl ?_
      refine rk_VV (b := 0) (d' := 2) [] [] d_M_unit_54 ml_M_130 rfl rfl (by omega) (by decide) rfl rfl (Nat.le_of_ble_eq_true rfl) (s_M_opens  ?_)
      refine r_aload_n (i := 0) d_M_unit_57 rfl rfl ?_
      refine r_getI (b := 0) (v := (g_M_opens h1).1 0 4) d_M_unit_58 fl_M_100 (by decide) rfl rfl rfl ?_
      refine r_iconst d_M_unit_61 ic_m1 ?_
      refine r_icmp_ne (tgt := 94) d_M_unit_62 (by decide) (fun hc_62 => ?_) (fun hc_62 => ?_)
      · replace H := H.2 hc_62
        exact rV_ret d_M_unit_94 rfl H
      · replace H := H.1 hc_62
        refine r_aload_n (i := 0) d_M_unit_65 rfl rfl ?_
        refine rc_VV (b := 0) (d' := (d + 39)) [] [] d_M_unit_66 ml_M_152 rfl rfl (by omega) (by decide) rfl rfl (Nat.le_of_ble_eq_true rfl) H ?_
        intro h4 H
        refine r_aload_n (i := 0) d_M_unit_69 rfl rfl ?_
        refine r_bipush d_M_unit_70 bp_41 ?_
        refine rc_VV (b := 0) (d' := 3) [.int 41] [] d_M_unit_72 ml_M_136 rfl rfl (by omega) (by decide) rfl rfl (Nat.le_of_ble_eq_true rfl) H ?_
        intro h5 H
        refine r_goto (tgt := 94) d_M_unit_75 (by decide) ?_
        exact rV_ret d_M_unit_94 rfl H
  · replace H := H.1 hc_8
    refine r_aload_n (i := 0) d_M_unit_11 rfl rfl ?_
    refine rk_VV (b := 0) (d' := 2) [] [] d_M_unit_12 ml_M_130 rfl rfl (by omega) (by decide) rfl rfl (Nat.le_of_ble_eq_true rfl) (s_M_opens  ?_)
    refine r_aload_n (i := 0) d_M_unit_15 rfl rfl ?_
    refine r_getI (b := 0) (v := (g_M_opens h1).1 0 4) d_M_unit_16 fl_M_100 (by decide) rfl rfl rfl ?_
    refine r_iconst d_M_unit_19 ic_m1 ?_
    refine r_icmp_ne (tgt := 94) d_M_unit_20 (by decide) (fun hc_20 => ?_) (fun hc_20 => ?_)
    · replace H := H.2 hc_20
      exact rV_ret d_M_unit_94 rfl H
    · replace H := H.1 hc_20
      refine r_aload_n (i := 0) d_M_unit_23 rfl rfl ?_
      refine rc_VV (b := 0) (d' := (d + 36)) [] [] d_M_unit_24 ml_M_149 rfl rfl (by omega) (by decide) rfl rfl (Nat.le_of_ble_eq_true rfl) H ?_
      intro h3 H
      refine r_aload_n (i := 0) d_M_unit_27 rfl rfl ?_
      refine r_bipush d_M_unit_28 bp_9 ?_
      refine r_iconst d_M_unit_30 ic_0 ?_
      obtain ⟨hp_31_0, H⟩ := H
      refine rk_VV (b := 0) (d' := 1) [.int 9, .int 0] [] d_M_unit_31 ml_M_122 rfl rfl (by omega) (by decide) rfl rfl (Nat.le_of_ble_eq_true rfl) (s_M_put 9 0 hp_31_0 ?_)
      refine r_aload_n (i := 0) d_M_unit_34 rfl rfl ?_
      refine r_dupr d_M_unit_35 ?_
      refine r_getI (b := 0) (v := (g_M_put 9 0 h3).1 0 5) d_M_unit_36 fl_M_106 (by decide) rfl rfl rfl ?_
      refine r_iconst d_M_unit_39 ic_1 ?_
      refine r_isub d_M_unit_40 ?_
      refine r_putI (b := 0) d_M_unit_41 fp_M_106 ⟨rfl, rfl⟩ (by decide) rfl rfl ?_
      refine r_goto (tgt := 94) d_M_unit_44 (by decide) ?_
      exact rV_ret d_M_unit_94 rfl H
set_option maxHeartbeats 4000000 in
set_option maxRecDepth 20000 in
theorem w_M_goOnAnd {G : rx_Gh} {hp : rx_Hp} {F : rx_Hp → Prop}  {d : Nat} (H : Rn wM G (d + 41) q_M_goOnAnd 0 [some (.ref 0)] [] hp (rV F)) : Ev wM G (d + 41) q_M_goOnAnd [.ref 0] hp (rV F) := by
  refine ev_of rfl (Nat.le_of_ble_eq_true rfl) rfl ?_
  show Rn wM G (d + 41) q_M_goOnAnd 0 [some (.ref 0)] [] hp (rV F)
  exact H
set_option maxHeartbeats 4000000 in
set_option maxRecDepth 20000 in
theorem w_M_goOnAnd_0 {G : rx_Gh} {hp : rx_Hp} {F : rx_Hp → Prop}  {d : Nat} (H : ((hp.1 0 4) = (-1) → Ev wM G 2 q_M_look [.ref 0] hp (rI fun r2 h1 => (r2 = 38 → Ev wM G (d + 40) q_M_unit [.ref 0] (rx_pf h1 0 3 ((h1.1 0 3) + 1)) (rV fun h3 => p_M_put 10 0 h3 ∧ (Rn wM G (d + 41) q_M_goOnAnd 0 [some (.ref 0)] [] (g_M_put 10 0 h3) (rV F)))) ∧ (¬ r2 = 38 → F h1))) ∧ (¬ (hp.1 0 4) = (-1) → F hp)) : Rn wM G (d + 41) q_M_goOnAnd 0 [some (.ref 0)] [] hp (rV F) := by
  refine r_aload_n (i := 0) d_M_goOnAnd_0 rfl rfl ?_
  refine r_getI (b := 0) (v := hp.1 0 4) d_M_goOnAnd_1 fl_M_100 (by decide) rfl rfl rfl ?_
  refine r_iconst d_M_goOnAnd_4 ic_m1 ?_
  refine r_icmp_ne (tgt := 41) d_M_goOnAnd_5 (by decide) (fun hc_5 => ?_) (fun hc_5 => ?_)
  · replace H := H.2 hc_5
    exact rV_ret d_M_goOnAnd_41 rfl H
  · replace H := H.1 hc_5
    refine r_aload_n (i := 0) d_M_goOnAnd_8 rfl rfl ?_
    refine rc_VI (b := 0) (d' := 2) [] [] d_M_goOnAnd_9 ml_M_112 rfl rfl (by omega) (by decide) rfl rfl (Nat.le_of_ble_eq_true rfl) H ?_
    intro r2 h1 H
    refine r_bipush d_M_goOnAnd_12 bp_38 ?_
    refine r_icmp_ne (tgt := 41) d_M_goOnAnd_14 (by decide) (fun hc_14 => ?_) (fun hc_14 => ?_)
    · replace H := H.2 hc_14
      exact rV_ret d_M_goOnAnd_41 rfl H
    · replace H := H.1 hc_14
      refine r_aload_n (i := 0) d_M_goOnAnd_17 rfl rfl ?_
      refine r_dupr d_M_goOnAnd_18 ?_
      refine r_getI (b := 0) (v := h1.1 0 3) d_M_goOnAnd_19 fl_M_93 (by decide) rfl rfl rfl ?_
      refine r_iconst d_M_goOnAnd_22 ic_1 ?_
      refine r_iadd d_M_goOnAnd_23 ?_
      refine r_putI (b := 0) d_M_goOnAnd_24 fp_M_93 ⟨rfl, rfl⟩ (by decide) rfl rfl ?_
      refine r_aload_n (i := 0) d_M_goOnAnd_27 rfl rfl ?_
      refine rc_VV (b := 0) (d' := (d + 40)) [] [] d_M_goOnAnd_28 ml_M_149 rfl rfl (by omega) (by decide) rfl rfl (Nat.le_of_ble_eq_true rfl) H ?_
      intro h3 H
      refine r_aload_n (i := 0) d_M_goOnAnd_31 rfl rfl ?_
      refine r_bipush d_M_goOnAnd_32 bp_10 ?_
      refine r_iconst d_M_goOnAnd_34 ic_0 ?_
      obtain ⟨hp_35_0, H⟩ := H
      refine rk_VV (b := 0) (d' := 1) [.int 10, .int 0] [] d_M_goOnAnd_35 ml_M_122 rfl rfl (by omega) (by decide) rfl rfl (Nat.le_of_ble_eq_true rfl) (s_M_put 10 0 hp_35_0 ?_)
      refine r_goto (tgt := 0) d_M_goOnAnd_38 (by decide) ?_
      exact H
set_option maxHeartbeats 4000000 in
set_option maxRecDepth 20000 in
theorem w_M_goOnOr {G : rx_Gh} {hp : rx_Hp} {F : rx_Hp → Prop}  {d : Nat} (H : Rn wM G (d + 42) q_M_goOnOr 0 [some (.ref 0)] [] hp (rV F)) : Ev wM G (d + 42) q_M_goOnOr [.ref 0] hp (rV F) := by
  refine ev_of rfl (Nat.le_of_ble_eq_true rfl) rfl ?_
  show Rn wM G (d + 42) q_M_goOnOr 0 [some (.ref 0)] [] hp (rV F)
  exact H
set_option maxHeartbeats 4000000 in
set_option maxRecDepth 20000 in
theorem w_M_goOnOr_0 {G : rx_Gh} {hp : rx_Hp} {F : rx_Hp → Prop}  {d : Nat} (H : ((hp.1 0 4) = (-1) → Ev wM G 2 q_M_look [.ref 0] hp (rI fun r2 h1 => (r2 = 124 → Ev wM G (d + 40) q_M_unit [.ref 0] (rx_pf h1 0 3 ((h1.1 0 3) + 1)) (rV fun h3 => Ev wM G (d + 41) q_M_goOnAnd [.ref 0] h3 (rV fun h4 => p_M_put 11 0 h4 ∧ (Rn wM G (d + 42) q_M_goOnOr 0 [some (.ref 0)] [] (g_M_put 11 0 h4) (rV F))))) ∧ (¬ r2 = 124 → F h1))) ∧ (¬ (hp.1 0 4) = (-1) → F hp)) : Rn wM G (d + 42) q_M_goOnOr 0 [some (.ref 0)] [] hp (rV F) := by
  refine r_aload_n (i := 0) d_M_goOnOr_0 rfl rfl ?_
  refine r_getI (b := 0) (v := hp.1 0 4) d_M_goOnOr_1 fl_M_100 (by decide) rfl rfl rfl ?_
  refine r_iconst d_M_goOnOr_4 ic_m1 ?_
  refine r_icmp_ne (tgt := 45) d_M_goOnOr_5 (by decide) (fun hc_5 => ?_) (fun hc_5 => ?_)
  · replace H := H.2 hc_5
    exact rV_ret d_M_goOnOr_45 rfl H
  · replace H := H.1 hc_5
    refine r_aload_n (i := 0) d_M_goOnOr_8 rfl rfl ?_
    refine rc_VI (b := 0) (d' := 2) [] [] d_M_goOnOr_9 ml_M_112 rfl rfl (by omega) (by decide) rfl rfl (Nat.le_of_ble_eq_true rfl) H ?_
    intro r2 h1 H
    refine r_bipush d_M_goOnOr_12 bp_124 ?_
    refine r_icmp_ne (tgt := 45) d_M_goOnOr_14 (by decide) (fun hc_14 => ?_) (fun hc_14 => ?_)
    · replace H := H.2 hc_14
      exact rV_ret d_M_goOnOr_45 rfl H
    · replace H := H.1 hc_14
      refine r_aload_n (i := 0) d_M_goOnOr_17 rfl rfl ?_
      refine r_dupr d_M_goOnOr_18 ?_
      refine r_getI (b := 0) (v := h1.1 0 3) d_M_goOnOr_19 fl_M_93 (by decide) rfl rfl rfl ?_
      refine r_iconst d_M_goOnOr_22 ic_1 ?_
      refine r_iadd d_M_goOnOr_23 ?_
      refine r_putI (b := 0) d_M_goOnOr_24 fp_M_93 ⟨rfl, rfl⟩ (by decide) rfl rfl ?_
      refine r_aload_n (i := 0) d_M_goOnOr_27 rfl rfl ?_
      refine rc_VV (b := 0) (d' := (d + 40)) [] [] d_M_goOnOr_28 ml_M_149 rfl rfl (by omega) (by decide) rfl rfl (Nat.le_of_ble_eq_true rfl) H ?_
      intro h3 H
      refine r_aload_n (i := 0) d_M_goOnOr_31 rfl rfl ?_
      refine rc_VV (b := 0) (d' := (d + 41)) [] [] d_M_goOnOr_32 ml_M_158 rfl rfl (by omega) (by decide) rfl rfl (Nat.le_of_ble_eq_true rfl) H ?_
      intro h4 H
      refine r_aload_n (i := 0) d_M_goOnOr_35 rfl rfl ?_
      refine r_bipush d_M_goOnOr_36 bp_11 ?_
      refine r_iconst d_M_goOnOr_38 ic_0 ?_
      obtain ⟨hp_39_0, H⟩ := H
      refine rk_VV (b := 0) (d' := 1) [.int 11, .int 0] [] d_M_goOnOr_39 ml_M_122 rfl rfl (by omega) (by decide) rfl rfl (Nat.le_of_ble_eq_true rfl) (s_M_put 11 0 hp_39_0 ?_)
      refine r_goto (tgt := 0) d_M_goOnOr_42 (by decide) ?_
      exact H
set_option maxHeartbeats 4000000 in
set_option maxRecDepth 20000 in
theorem w_M_condition {G : rx_Gh} {hp : rx_Hp} {F : rx_Hp → Prop}  {d : Nat} (H : Ev wM G (d + 40) q_M_unit [.ref 0] hp (rV fun h1 => Ev wM G (d + 41) q_M_goOnAnd [.ref 0] h1 (rV fun h2 => Ev wM G (d + 42) q_M_goOnOr [.ref 0] h2 (rV fun h3 => F h3)))) : Ev wM G (d + 43) q_M_condition [.ref 0] hp (rV F) := by
  refine ev_of rfl (Nat.le_of_ble_eq_true rfl) rfl ?_
  show Rn wM G (d + 43) q_M_condition 0 [some (.ref 0)] [] hp (rV F)
  refine r_aload_n (i := 0) d_M_condition_0 rfl rfl ?_
  refine rc_VV (b := 0) (d' := (d + 40)) [] [] d_M_condition_1 ml_M_149 rfl rfl (by omega) (by decide) rfl rfl (Nat.le_of_ble_eq_true rfl) H ?_
  intro h1 H
  refine r_aload_n (i := 0) d_M_condition_4 rfl rfl ?_
  refine rc_VV (b := 0) (d' := (d + 41)) [] [] d_M_condition_5 ml_M_158 rfl rfl (by omega) (by decide) rfl rfl (Nat.le_of_ble_eq_true rfl) H ?_
  intro h2 H
  refine r_aload_n (i := 0) d_M_condition_8 rfl rfl ?_
  refine rc_VV (b := 0) (d' := (d + 42)) [] [] d_M_condition_9 ml_M_161 rfl rfl (by omega) (by decide) rfl rfl (Nat.le_of_ble_eq_true rfl) H ?_
  intro h3 H
  exact rV_ret d_M_condition_12 rfl H
set_option maxHeartbeats 4000000 in
set_option maxRecDepth 20000 in
theorem w_M_clause {G : rx_Gh} {hp : rx_Hp} {F : rx_Hp → Prop}  (H : vp_in (hp.1 0 14) 5 ∧ (((hp.1 0 4) = (-1) → Ev wM G 2 q_M_look [.ref 0] hp (rI fun r2 h1 => (r2 = 121 → ((h1.1 0 4) = (-1) → Ev wM G 2 q_M_look [.ref 0] (rx_pf h1 0 3 ((h1.1 0 3) + 1)) (rI fun r4 h3 => (r4 = 58 → ((h3.1 0 4) = (-1) → vp_in (h3.1 0 14) 5 ∧ (vp_in ((90 * (hp.1 0 14)) + (hp.2.1 5 (hp.1 0 14).toNatClampNeg)) 450 ∧ (Ev wM G 2 q_M_look [.ref 0] (rx_pa (rx_pf h3 0 3 ((h3.1 0 3) + 1)) 6 (((90 * (hp.1 0 14)) + (hp.2.1 5 (hp.1 0 14).toNatClampNeg)).toNatClampNeg) (h3.2.1 4 (h3.1 0 14).toNatClampNeg)) (rI fun r6 h5 => (r6 = 33 → Ev wM G 67 q_M_condition [.ref 0] h5 (rV fun h7 => ((h7.1 0 4) = (-1) → Ev wM G 2 q_M_look [.ref 0] (rx_pa h7 7 (((90 * (hp.1 0 14)) + (hp.2.1 5 (hp.1 0 14).toNatClampNeg)).toNatClampNeg) (h7.2.1 6 ((90 * (hp.1 0 14)) + (hp.2.1 5 (hp.1 0 14).toNatClampNeg)).toNatClampNeg)) (rI fun r9 h8 => (r9 = 63 → vp_in (h8.1 0 14) 5 ∧ (Ev wM G 36 q_M_sum [.ref 0] (rx_pa (rx_pf h8 0 3 ((h8.1 0 3) + 1)) 7 (((90 * (hp.1 0 14)) + (hp.2.1 5 (hp.1 0 14).toNatClampNeg)).toNatClampNeg) (h8.2.1 4 (h8.1 0 14).toNatClampNeg)) (rV fun h10 => vp_in (h10.1 0 14) 5 ∧ (F (rx_pa (rx_pa h10 8 (((90 * (hp.1 0 14)) + (hp.2.1 5 (hp.1 0 14).toNatClampNeg)).toNatClampNeg) (h10.2.1 4 (h10.1 0 14).toNatClampNeg)) 5 ((h10.1 0 14).toNatClampNeg) ((h10.2.1 5 (h10.1 0 14).toNatClampNeg) + 1)))))) ∧ (¬ r9 = 63 → F (g_M_bad h8)))) ∧ (¬ (h7.1 0 4) = (-1) → vp_in (h7.1 0 14) 5 ∧ (F (rx_pa (rx_pa (rx_pa h7 7 (((90 * (hp.1 0 14)) + (hp.2.1 5 (hp.1 0 14).toNatClampNeg)).toNatClampNeg) (h7.2.1 6 ((90 * (hp.1 0 14)) + (hp.2.1 5 (hp.1 0 14).toNatClampNeg)).toNatClampNeg)) 8 (((90 * (hp.1 0 14)) + (hp.2.1 5 (hp.1 0 14).toNatClampNeg)).toNatClampNeg) (h7.2.1 4 (h7.1 0 14).toNatClampNeg)) 5 ((h7.1 0 14).toNatClampNeg) ((h7.2.1 5 (h7.1 0 14).toNatClampNeg) + 1)))))) ∧ (¬ r6 = 33 → Ev wM G 2 q_M_look [.ref 0] h5 (rI fun r12 h11 => (((if r12 = 40 then 1 else 0) : Int32) = 0 → Ev wM G 36 q_M_sum [.ref 0] h11 (rV fun h13 => ((h13.1 0 4) = (-1) → Ev wM G 2 q_M_look [.ref 0] h13 (rI fun r15 h14 => (((if (f_M_isSign r15) = 0 then 0 else 1) : Int32) = 0 → vp_in (h14.1 0 14) 5 ∧ (F (rx_pa (rx_pa (rx_pa h14 7 (((90 * (hp.1 0 14)) + (hp.2.1 5 (hp.1 0 14).toNatClampNeg)).toNatClampNeg) (h14.2.1 6 ((90 * (hp.1 0 14)) + (hp.2.1 5 (hp.1 0 14).toNatClampNeg)).toNatClampNeg)) 8 (((90 * (hp.1 0 14)) + (hp.2.1 5 (hp.1 0 14).toNatClampNeg)).toNatClampNeg) (h14.2.1 4 (h14.1 0 14).toNatClampNeg)) 5 ((h14.1 0 14).toNatClampNeg) ((h14.2.1 5 (h14.1 0 14).toNatClampNeg) + 1)))) ∧ (¬ ((if (f_M_isSign r15) = 0 then 0 else 1) : Int32) = 0 → Ev wM G 37 q_M_compare [.ref 0] h14 (rV fun h16 => Ev wM G 65 q_M_goOnAnd [.ref 0] h16 (rV fun h17 => Ev wM G 66 q_M_goOnOr [.ref 0] h17 (rV fun h18 => ((h18.1 0 4) = (-1) → Ev wM G 2 q_M_look [.ref 0] (rx_pa h18 7 (((90 * (hp.1 0 14)) + (hp.2.1 5 (hp.1 0 14).toNatClampNeg)).toNatClampNeg) (h18.2.1 6 ((90 * (hp.1 0 14)) + (hp.2.1 5 (hp.1 0 14).toNatClampNeg)).toNatClampNeg)) (rI fun r20 h19 => (r20 = 63 → vp_in (h19.1 0 14) 5 ∧ (Ev wM G 36 q_M_sum [.ref 0] (rx_pa (rx_pf h19 0 3 ((h19.1 0 3) + 1)) 7 (((90 * (hp.1 0 14)) + (hp.2.1 5 (hp.1 0 14).toNatClampNeg)).toNatClampNeg) (h19.2.1 4 (h19.1 0 14).toNatClampNeg)) (rV fun h21 => vp_in (h21.1 0 14) 5 ∧ (F (rx_pa (rx_pa h21 8 (((90 * (hp.1 0 14)) + (hp.2.1 5 (hp.1 0 14).toNatClampNeg)).toNatClampNeg) (h21.2.1 4 (h21.1 0 14).toNatClampNeg)) 5 ((h21.1 0 14).toNatClampNeg) ((h21.2.1 5 (h21.1 0 14).toNatClampNeg) + 1)))))) ∧ (¬ r20 = 63 → F (g_M_bad h19)))) ∧ (¬ (h18.1 0 4) = (-1) → vp_in (h18.1 0 14) 5 ∧ (F (rx_pa (rx_pa (rx_pa h18 7 (((90 * (hp.1 0 14)) + (hp.2.1 5 (hp.1 0 14).toNatClampNeg)).toNatClampNeg) (h18.2.1 6 ((90 * (hp.1 0 14)) + (hp.2.1 5 (hp.1 0 14).toNatClampNeg)).toNatClampNeg)) 8 (((90 * (hp.1 0 14)) + (hp.2.1 5 (hp.1 0 14).toNatClampNeg)).toNatClampNeg) (h18.2.1 4 (h18.1 0 14).toNatClampNeg)) 5 ((h18.1 0 14).toNatClampNeg) ((h18.2.1 5 (h18.1 0 14).toNatClampNeg) + 1)))))))))) ∧ (¬ (h13.1 0 4) = (-1) → vp_in (h13.1 0 14) 5 ∧ (F (rx_pa (rx_pa (rx_pa h13 7 (((90 * (hp.1 0 14)) + (hp.2.1 5 (hp.1 0 14).toNatClampNeg)).toNatClampNeg) (h13.2.1 6 ((90 * (hp.1 0 14)) + (hp.2.1 5 (hp.1 0 14).toNatClampNeg)).toNatClampNeg)) 8 (((90 * (hp.1 0 14)) + (hp.2.1 5 (hp.1 0 14).toNatClampNeg)).toNatClampNeg) (h13.2.1 4 (h13.1 0 14).toNatClampNeg)) 5 ((h13.1 0 14).toNatClampNeg) ((h13.2.1 5 (h13.1 0 14).toNatClampNeg) + 1)))))) ∧ (¬ ((if r12 = 40 then 1 else 0) : Int32) = 0 → Ev wM G 67 q_M_condition [.ref 0] h11 (rV fun h22 => ((h22.1 0 4) = (-1) → Ev wM G 2 q_M_look [.ref 0] (rx_pa h22 7 (((90 * (hp.1 0 14)) + (hp.2.1 5 (hp.1 0 14).toNatClampNeg)).toNatClampNeg) (h22.2.1 6 ((90 * (hp.1 0 14)) + (hp.2.1 5 (hp.1 0 14).toNatClampNeg)).toNatClampNeg)) (rI fun r24 h23 => (r24 = 63 → vp_in (h23.1 0 14) 5 ∧ (Ev wM G 36 q_M_sum [.ref 0] (rx_pa (rx_pf h23 0 3 ((h23.1 0 3) + 1)) 7 (((90 * (hp.1 0 14)) + (hp.2.1 5 (hp.1 0 14).toNatClampNeg)).toNatClampNeg) (h23.2.1 4 (h23.1 0 14).toNatClampNeg)) (rV fun h25 => vp_in (h25.1 0 14) 5 ∧ (F (rx_pa (rx_pa h25 8 (((90 * (hp.1 0 14)) + (hp.2.1 5 (hp.1 0 14).toNatClampNeg)).toNatClampNeg) (h25.2.1 4 (h25.1 0 14).toNatClampNeg)) 5 ((h25.1 0 14).toNatClampNeg) ((h25.2.1 5 (h25.1 0 14).toNatClampNeg) + 1)))))) ∧ (¬ r24 = 63 → F (g_M_bad h23)))) ∧ (¬ (h22.1 0 4) = (-1) → vp_in (h22.1 0 14) 5 ∧ (F (rx_pa (rx_pa (rx_pa h22 7 (((90 * (hp.1 0 14)) + (hp.2.1 5 (hp.1 0 14).toNatClampNeg)).toNatClampNeg) (h22.2.1 6 ((90 * (hp.1 0 14)) + (hp.2.1 5 (hp.1 0 14).toNatClampNeg)).toNatClampNeg)) 8 (((90 * (hp.1 0 14)) + (hp.2.1 5 (hp.1 0 14).toNatClampNeg)).toNatClampNeg) (h22.2.1 4 (h22.1 0 14).toNatClampNeg)) 5 ((h22.1 0 14).toNatClampNeg) ((h22.2.1 5 (h22.1 0 14).toNatClampNeg) + 1)))))))))))) ∧ (¬ (h3.1 0 4) = (-1) → F (rx_pf h3 0 3 ((h3.1 0 3) + 1)))) ∧ (¬ r4 = 58 → (((g_M_bad h3).1 0 4) = (-1) → vp_in ((g_M_bad h3).1 0 14) 5 ∧ (vp_in ((90 * (hp.1 0 14)) + (hp.2.1 5 (hp.1 0 14).toNatClampNeg)) 450 ∧ (Ev wM G 2 q_M_look [.ref 0] (rx_pa (rx_pf (g_M_bad h3) 0 3 (((g_M_bad h3).1 0 3) + 1)) 6 (((90 * (hp.1 0 14)) + (hp.2.1 5 (hp.1 0 14).toNatClampNeg)).toNatClampNeg) ((g_M_bad h3).2.1 4 ((g_M_bad h3).1 0 14).toNatClampNeg)) (rI fun r27 h26 => (r27 = 33 → Ev wM G 67 q_M_condition [.ref 0] h26 (rV fun h28 => ((h28.1 0 4) = (-1) → Ev wM G 2 q_M_look [.ref 0] (rx_pa h28 7 (((90 * (hp.1 0 14)) + (hp.2.1 5 (hp.1 0 14).toNatClampNeg)).toNatClampNeg) (h28.2.1 6 ((90 * (hp.1 0 14)) + (hp.2.1 5 (hp.1 0 14).toNatClampNeg)).toNatClampNeg)) (rI fun r30 h29 => (r30 = 63 → vp_in (h29.1 0 14) 5 ∧ (Ev wM G 36 q_M_sum [.ref 0] (rx_pa (rx_pf h29 0 3 ((h29.1 0 3) + 1)) 7 (((90 * (hp.1 0 14)) + (hp.2.1 5 (hp.1 0 14).toNatClampNeg)).toNatClampNeg) (h29.2.1 4 (h29.1 0 14).toNatClampNeg)) (rV fun h31 => vp_in (h31.1 0 14) 5 ∧ (F (rx_pa (rx_pa h31 8 (((90 * (hp.1 0 14)) + (hp.2.1 5 (hp.1 0 14).toNatClampNeg)).toNatClampNeg) (h31.2.1 4 (h31.1 0 14).toNatClampNeg)) 5 ((h31.1 0 14).toNatClampNeg) ((h31.2.1 5 (h31.1 0 14).toNatClampNeg) + 1)))))) ∧ (¬ r30 = 63 → F (g_M_bad h29)))) ∧ (¬ (h28.1 0 4) = (-1) → vp_in (h28.1 0 14) 5 ∧ (F (rx_pa (rx_pa (rx_pa h28 7 (((90 * (hp.1 0 14)) + (hp.2.1 5 (hp.1 0 14).toNatClampNeg)).toNatClampNeg) (h28.2.1 6 ((90 * (hp.1 0 14)) + (hp.2.1 5 (hp.1 0 14).toNatClampNeg)).toNatClampNeg)) 8 (((90 * (hp.1 0 14)) + (hp.2.1 5 (hp.1 0 14).toNatClampNeg)).toNatClampNeg) (h28.2.1 4 (h28.1 0 14).toNatClampNeg)) 5 ((h28.1 0 14).toNatClampNeg) ((h28.2.1 5 (h28.1 0 14).toNatClampNeg) + 1)))))) ∧ (¬ r27 = 33 → Ev wM G 2 q_M_look [.ref 0] h26 (rI fun r33 h32 => (((if r33 = 40 then 1 else 0) : Int32) = 0 → Ev wM G 36 q_M_sum [.ref 0] h32 (rV fun h34 => ((h34.1 0 4) = (-1) → Ev wM G 2 q_M_look [.ref 0] h34 (rI fun r36 h35 => (((if (f_M_isSign r36) = 0 then 0 else 1) : Int32) = 0 → vp_in (h35.1 0 14) 5 ∧ (F (rx_pa (rx_pa (rx_pa h35 7 (((90 * (hp.1 0 14)) + (hp.2.1 5 (hp.1 0 14).toNatClampNeg)).toNatClampNeg) (h35.2.1 6 ((90 * (hp.1 0 14)) + (hp.2.1 5 (hp.1 0 14).toNatClampNeg)).toNatClampNeg)) 8 (((90 * (hp.1 0 14)) + (hp.2.1 5 (hp.1 0 14).toNatClampNeg)).toNatClampNeg) (h35.2.1 4 (h35.1 0 14).toNatClampNeg)) 5 ((h35.1 0 14).toNatClampNeg) ((h35.2.1 5 (h35.1 0 14).toNatClampNeg) + 1)))) ∧ (¬ ((if (f_M_isSign r36) = 0 then 0 else 1) : Int32) = 0 → Ev wM G 37 q_M_compare [.ref 0] h35 (rV fun h37 => Ev wM G 65 q_M_goOnAnd [.ref 0] h37 (rV fun h38 => Ev wM G 66 q_M_goOnOr [.ref 0] h38 (rV fun h39 => ((h39.1 0 4) = (-1) → Ev wM G 2 q_M_look [.ref 0] (rx_pa h39 7 (((90 * (hp.1 0 14)) + (hp.2.1 5 (hp.1 0 14).toNatClampNeg)).toNatClampNeg) (h39.2.1 6 ((90 * (hp.1 0 14)) + (hp.2.1 5 (hp.1 0 14).toNatClampNeg)).toNatClampNeg)) (rI fun r41 h40 => (r41 = 63 → vp_in (h40.1 0 14) 5 ∧ (Ev wM G 36 q_M_sum [.ref 0] (rx_pa (rx_pf h40 0 3 ((h40.1 0 3) + 1)) 7 (((90 * (hp.1 0 14)) + (hp.2.1 5 (hp.1 0 14).toNatClampNeg)).toNatClampNeg) (h40.2.1 4 (h40.1 0 14).toNatClampNeg)) (rV fun h42 => vp_in (h42.1 0 14) 5 ∧ (F (rx_pa (rx_pa h42 8 (((90 * (hp.1 0 14)) + (hp.2.1 5 (hp.1 0 14).toNatClampNeg)).toNatClampNeg) (h42.2.1 4 (h42.1 0 14).toNatClampNeg)) 5 ((h42.1 0 14).toNatClampNeg) ((h42.2.1 5 (h42.1 0 14).toNatClampNeg) + 1)))))) ∧ (¬ r41 = 63 → F (g_M_bad h40)))) ∧ (¬ (h39.1 0 4) = (-1) → vp_in (h39.1 0 14) 5 ∧ (F (rx_pa (rx_pa (rx_pa h39 7 (((90 * (hp.1 0 14)) + (hp.2.1 5 (hp.1 0 14).toNatClampNeg)).toNatClampNeg) (h39.2.1 6 ((90 * (hp.1 0 14)) + (hp.2.1 5 (hp.1 0 14).toNatClampNeg)).toNatClampNeg)) 8 (((90 * (hp.1 0 14)) + (hp.2.1 5 (hp.1 0 14).toNatClampNeg)).toNatClampNeg) (h39.2.1 4 (h39.1 0 14).toNatClampNeg)) 5 ((h39.1 0 14).toNatClampNeg) ((h39.2.1 5 (h39.1 0 14).toNatClampNeg) + 1)))))))))) ∧ (¬ (h34.1 0 4) = (-1) → vp_in (h34.1 0 14) 5 ∧ (F (rx_pa (rx_pa (rx_pa h34 7 (((90 * (hp.1 0 14)) + (hp.2.1 5 (hp.1 0 14).toNatClampNeg)).toNatClampNeg) (h34.2.1 6 ((90 * (hp.1 0 14)) + (hp.2.1 5 (hp.1 0 14).toNatClampNeg)).toNatClampNeg)) 8 (((90 * (hp.1 0 14)) + (hp.2.1 5 (hp.1 0 14).toNatClampNeg)).toNatClampNeg) (h34.2.1 4 (h34.1 0 14).toNatClampNeg)) 5 ((h34.1 0 14).toNatClampNeg) ((h34.2.1 5 (h34.1 0 14).toNatClampNeg) + 1)))))) ∧ (¬ ((if r33 = 40 then 1 else 0) : Int32) = 0 → Ev wM G 67 q_M_condition [.ref 0] h32 (rV fun h43 => ((h43.1 0 4) = (-1) → Ev wM G 2 q_M_look [.ref 0] (rx_pa h43 7 (((90 * (hp.1 0 14)) + (hp.2.1 5 (hp.1 0 14).toNatClampNeg)).toNatClampNeg) (h43.2.1 6 ((90 * (hp.1 0 14)) + (hp.2.1 5 (hp.1 0 14).toNatClampNeg)).toNatClampNeg)) (rI fun r45 h44 => (r45 = 63 → vp_in (h44.1 0 14) 5 ∧ (Ev wM G 36 q_M_sum [.ref 0] (rx_pa (rx_pf h44 0 3 ((h44.1 0 3) + 1)) 7 (((90 * (hp.1 0 14)) + (hp.2.1 5 (hp.1 0 14).toNatClampNeg)).toNatClampNeg) (h44.2.1 4 (h44.1 0 14).toNatClampNeg)) (rV fun h46 => vp_in (h46.1 0 14) 5 ∧ (F (rx_pa (rx_pa h46 8 (((90 * (hp.1 0 14)) + (hp.2.1 5 (hp.1 0 14).toNatClampNeg)).toNatClampNeg) (h46.2.1 4 (h46.1 0 14).toNatClampNeg)) 5 ((h46.1 0 14).toNatClampNeg) ((h46.2.1 5 (h46.1 0 14).toNatClampNeg) + 1)))))) ∧ (¬ r45 = 63 → F (g_M_bad h44)))) ∧ (¬ (h43.1 0 4) = (-1) → vp_in (h43.1 0 14) 5 ∧ (F (rx_pa (rx_pa (rx_pa h43 7 (((90 * (hp.1 0 14)) + (hp.2.1 5 (hp.1 0 14).toNatClampNeg)).toNatClampNeg) (h43.2.1 6 ((90 * (hp.1 0 14)) + (hp.2.1 5 (hp.1 0 14).toNatClampNeg)).toNatClampNeg)) 8 (((90 * (hp.1 0 14)) + (hp.2.1 5 (hp.1 0 14).toNatClampNeg)).toNatClampNeg) (h43.2.1 4 (h43.1 0 14).toNatClampNeg)) 5 ((h43.1 0 14).toNatClampNeg) ((h43.2.1 5 (h43.1 0 14).toNatClampNeg) + 1)))))))))))) ∧ (¬ ((g_M_bad h3).1 0 4) = (-1) → F (rx_pf (g_M_bad h3) 0 3 (((g_M_bad h3).1 0 3) + 1)))))) ∧ (¬ (h1.1 0 4) = (-1) → F (rx_pf (rx_pf h1 0 3 ((h1.1 0 3) + 1)) 0 3 (((h1.1 0 3) + 1) + 1)))) ∧ (¬ r2 = 121 → (((g_M_bad h1).1 0 4) = (-1) → Ev wM G 2 q_M_look [.ref 0] (rx_pf (g_M_bad h1) 0 3 (((g_M_bad h1).1 0 3) + 1)) (rI fun r48 h47 => (r48 = 58 → ((h47.1 0 4) = (-1) → vp_in (h47.1 0 14) 5 ∧ (vp_in ((90 * (hp.1 0 14)) + (hp.2.1 5 (hp.1 0 14).toNatClampNeg)) 450 ∧ (Ev wM G 2 q_M_look [.ref 0] (rx_pa (rx_pf h47 0 3 ((h47.1 0 3) + 1)) 6 (((90 * (hp.1 0 14)) + (hp.2.1 5 (hp.1 0 14).toNatClampNeg)).toNatClampNeg) (h47.2.1 4 (h47.1 0 14).toNatClampNeg)) (rI fun r50 h49 => (r50 = 33 → Ev wM G 67 q_M_condition [.ref 0] h49 (rV fun h51 => ((h51.1 0 4) = (-1) → Ev wM G 2 q_M_look [.ref 0] (rx_pa h51 7 (((90 * (hp.1 0 14)) + (hp.2.1 5 (hp.1 0 14).toNatClampNeg)).toNatClampNeg) (h51.2.1 6 ((90 * (hp.1 0 14)) + (hp.2.1 5 (hp.1 0 14).toNatClampNeg)).toNatClampNeg)) (rI fun r53 h52 => (r53 = 63 → vp_in (h52.1 0 14) 5 ∧ (Ev wM G 36 q_M_sum [.ref 0] (rx_pa (rx_pf h52 0 3 ((h52.1 0 3) + 1)) 7 (((90 * (hp.1 0 14)) + (hp.2.1 5 (hp.1 0 14).toNatClampNeg)).toNatClampNeg) (h52.2.1 4 (h52.1 0 14).toNatClampNeg)) (rV fun h54 => vp_in (h54.1 0 14) 5 ∧ (F (rx_pa (rx_pa h54 8 (((90 * (hp.1 0 14)) + (hp.2.1 5 (hp.1 0 14).toNatClampNeg)).toNatClampNeg) (h54.2.1 4 (h54.1 0 14).toNatClampNeg)) 5 ((h54.1 0 14).toNatClampNeg) ((h54.2.1 5 (h54.1 0 14).toNatClampNeg) + 1)))))) ∧ (¬ r53 = 63 → F (g_M_bad h52)))) ∧ (¬ (h51.1 0 4) = (-1) → vp_in (h51.1 0 14) 5 ∧ (F (rx_pa (rx_pa (rx_pa h51 7 (((90 * (hp.1 0 14)) + (hp.2.1 5 (hp.1 0 14).toNatClampNeg)).toNatClampNeg) (h51.2.1 6 ((90 * (hp.1 0 14)) + (hp.2.1 5 (hp.1 0 14).toNatClampNeg)).toNatClampNeg)) 8 (((90 * (hp.1 0 14)) + (hp.2.1 5 (hp.1 0 14).toNatClampNeg)).toNatClampNeg) (h51.2.1 4 (h51.1 0 14).toNatClampNeg)) 5 ((h51.1 0 14).toNatClampNeg) ((h51.2.1 5 (h51.1 0 14).toNatClampNeg) + 1)))))) ∧ (¬ r50 = 33 → Ev wM G 2 q_M_look [.ref 0] h49 (rI fun r56 h55 => (((if r56 = 40 then 1 else 0) : Int32) = 0 → Ev wM G 36 q_M_sum [.ref 0] h55 (rV fun h57 => ((h57.1 0 4) = (-1) → Ev wM G 2 q_M_look [.ref 0] h57 (rI fun r59 h58 => (((if (f_M_isSign r59) = 0 then 0 else 1) : Int32) = 0 → vp_in (h58.1 0 14) 5 ∧ (F (rx_pa (rx_pa (rx_pa h58 7 (((90 * (hp.1 0 14)) + (hp.2.1 5 (hp.1 0 14).toNatClampNeg)).toNatClampNeg) (h58.2.1 6 ((90 * (hp.1 0 14)) + (hp.2.1 5 (hp.1 0 14).toNatClampNeg)).toNatClampNeg)) 8 (((90 * (hp.1 0 14)) + (hp.2.1 5 (hp.1 0 14).toNatClampNeg)).toNatClampNeg) (h58.2.1 4 (h58.1 0 14).toNatClampNeg)) 5 ((h58.1 0 14).toNatClampNeg) ((h58.2.1 5 (h58.1 0 14).toNatClampNeg) + 1)))) ∧ (¬ ((if (f_M_isSign r59) = 0 then 0 else 1) : Int32) = 0 → Ev wM G 37 q_M_compare [.ref 0] h58 (rV fun h60 => Ev wM G 65 q_M_goOnAnd [.ref 0] h60 (rV fun h61 => Ev wM G 66 q_M_goOnOr [.ref 0] h61 (rV fun h62 => ((h62.1 0 4) = (-1) → Ev wM G 2 q_M_look [.ref 0] (rx_pa h62 7 (((90 * (hp.1 0 14)) + (hp.2.1 5 (hp.1 0 14).toNatClampNeg)).toNatClampNeg) (h62.2.1 6 ((90 * (hp.1 0 14)) + (hp.2.1 5 (hp.1 0 14).toNatClampNeg)).toNatClampNeg)) (rI fun r64 h63 => (r64 = 63 → vp_in (h63.1 0 14) 5 ∧ (Ev wM G 36 q_M_sum [.ref 0] (rx_pa (rx_pf h63 0 3 ((h63.1 0 3) + 1)) 7 (((90 * (hp.1 0 14)) + (hp.2.1 5 (hp.1 0 14).toNatClampNeg)).toNatClampNeg) (h63.2.1 4 (h63.1 0 14).toNatClampNeg)) (rV fun h65 => vp_in (h65.1 0 14) 5 ∧ (F (rx_pa (rx_pa h65 8 (((90 * (hp.1 0 14)) + (hp.2.1 5 (hp.1 0 14).toNatClampNeg)).toNatClampNeg) (h65.2.1 4 (h65.1 0 14).toNatClampNeg)) 5 ((h65.1 0 14).toNatClampNeg) ((h65.2.1 5 (h65.1 0 14).toNatClampNeg) + 1)))))) ∧ (¬ r64 = 63 → F (g_M_bad h63)))) ∧ (¬ (h62.1 0 4) = (-1) → vp_in (h62.1 0 14) 5 ∧ (F (rx_pa (rx_pa (rx_pa h62 7 (((90 * (hp.1 0 14)) + (hp.2.1 5 (hp.1 0 14).toNatClampNeg)).toNatClampNeg) (h62.2.1 6 ((90 * (hp.1 0 14)) + (hp.2.1 5 (hp.1 0 14).toNatClampNeg)).toNatClampNeg)) 8 (((90 * (hp.1 0 14)) + (hp.2.1 5 (hp.1 0 14).toNatClampNeg)).toNatClampNeg) (h62.2.1 4 (h62.1 0 14).toNatClampNeg)) 5 ((h62.1 0 14).toNatClampNeg) ((h62.2.1 5 (h62.1 0 14).toNatClampNeg) + 1)))))))))) ∧ (¬ (h57.1 0 4) = (-1) → vp_in (h57.1 0 14) 5 ∧ (F (rx_pa (rx_pa (rx_pa h57 7 (((90 * (hp.1 0 14)) + (hp.2.1 5 (hp.1 0 14).toNatClampNeg)).toNatClampNeg) (h57.2.1 6 ((90 * (hp.1 0 14)) + (hp.2.1 5 (hp.1 0 14).toNatClampNeg)).toNatClampNeg)) 8 (((90 * (hp.1 0 14)) + (hp.2.1 5 (hp.1 0 14).toNatClampNeg)).toNatClampNeg) (h57.2.1 4 (h57.1 0 14).toNatClampNeg)) 5 ((h57.1 0 14).toNatClampNeg) ((h57.2.1 5 (h57.1 0 14).toNatClampNeg) + 1)))))) ∧ (¬ ((if r56 = 40 then 1 else 0) : Int32) = 0 → Ev wM G 67 q_M_condition [.ref 0] h55 (rV fun h66 => ((h66.1 0 4) = (-1) → Ev wM G 2 q_M_look [.ref 0] (rx_pa h66 7 (((90 * (hp.1 0 14)) + (hp.2.1 5 (hp.1 0 14).toNatClampNeg)).toNatClampNeg) (h66.2.1 6 ((90 * (hp.1 0 14)) + (hp.2.1 5 (hp.1 0 14).toNatClampNeg)).toNatClampNeg)) (rI fun r68 h67 => (r68 = 63 → vp_in (h67.1 0 14) 5 ∧ (Ev wM G 36 q_M_sum [.ref 0] (rx_pa (rx_pf h67 0 3 ((h67.1 0 3) + 1)) 7 (((90 * (hp.1 0 14)) + (hp.2.1 5 (hp.1 0 14).toNatClampNeg)).toNatClampNeg) (h67.2.1 4 (h67.1 0 14).toNatClampNeg)) (rV fun h69 => vp_in (h69.1 0 14) 5 ∧ (F (rx_pa (rx_pa h69 8 (((90 * (hp.1 0 14)) + (hp.2.1 5 (hp.1 0 14).toNatClampNeg)).toNatClampNeg) (h69.2.1 4 (h69.1 0 14).toNatClampNeg)) 5 ((h69.1 0 14).toNatClampNeg) ((h69.2.1 5 (h69.1 0 14).toNatClampNeg) + 1)))))) ∧ (¬ r68 = 63 → F (g_M_bad h67)))) ∧ (¬ (h66.1 0 4) = (-1) → vp_in (h66.1 0 14) 5 ∧ (F (rx_pa (rx_pa (rx_pa h66 7 (((90 * (hp.1 0 14)) + (hp.2.1 5 (hp.1 0 14).toNatClampNeg)).toNatClampNeg) (h66.2.1 6 ((90 * (hp.1 0 14)) + (hp.2.1 5 (hp.1 0 14).toNatClampNeg)).toNatClampNeg)) 8 (((90 * (hp.1 0 14)) + (hp.2.1 5 (hp.1 0 14).toNatClampNeg)).toNatClampNeg) (h66.2.1 4 (h66.1 0 14).toNatClampNeg)) 5 ((h66.1 0 14).toNatClampNeg) ((h66.2.1 5 (h66.1 0 14).toNatClampNeg) + 1)))))))))))) ∧ (¬ (h47.1 0 4) = (-1) → F (rx_pf h47 0 3 ((h47.1 0 3) + 1)))) ∧ (¬ r48 = 58 → (((g_M_bad h47).1 0 4) = (-1) → vp_in ((g_M_bad h47).1 0 14) 5 ∧ (vp_in ((90 * (hp.1 0 14)) + (hp.2.1 5 (hp.1 0 14).toNatClampNeg)) 450 ∧ (Ev wM G 2 q_M_look [.ref 0] (rx_pa (rx_pf (g_M_bad h47) 0 3 (((g_M_bad h47).1 0 3) + 1)) 6 (((90 * (hp.1 0 14)) + (hp.2.1 5 (hp.1 0 14).toNatClampNeg)).toNatClampNeg) ((g_M_bad h47).2.1 4 ((g_M_bad h47).1 0 14).toNatClampNeg)) (rI fun r71 h70 => (r71 = 33 → Ev wM G 67 q_M_condition [.ref 0] h70 (rV fun h72 => ((h72.1 0 4) = (-1) → Ev wM G 2 q_M_look [.ref 0] (rx_pa h72 7 (((90 * (hp.1 0 14)) + (hp.2.1 5 (hp.1 0 14).toNatClampNeg)).toNatClampNeg) (h72.2.1 6 ((90 * (hp.1 0 14)) + (hp.2.1 5 (hp.1 0 14).toNatClampNeg)).toNatClampNeg)) (rI fun r74 h73 => (r74 = 63 → vp_in (h73.1 0 14) 5 ∧ (Ev wM G 36 q_M_sum [.ref 0] (rx_pa (rx_pf h73 0 3 ((h73.1 0 3) + 1)) 7 (((90 * (hp.1 0 14)) + (hp.2.1 5 (hp.1 0 14).toNatClampNeg)).toNatClampNeg) (h73.2.1 4 (h73.1 0 14).toNatClampNeg)) (rV fun h75 => vp_in (h75.1 0 14) 5 ∧ (F (rx_pa (rx_pa h75 8 (((90 * (hp.1 0 14)) + (hp.2.1 5 (hp.1 0 14).toNatClampNeg)).toNatClampNeg) (h75.2.1 4 (h75.1 0 14).toNatClampNeg)) 5 ((h75.1 0 14).toNatClampNeg) ((h75.2.1 5 (h75.1 0 14).toNatClampNeg) + 1)))))) ∧ (¬ r74 = 63 → F (g_M_bad h73)))) ∧ (¬ (h72.1 0 4) = (-1) → vp_in (h72.1 0 14) 5 ∧ (F (rx_pa (rx_pa (rx_pa h72 7 (((90 * (hp.1 0 14)) + (hp.2.1 5 (hp.1 0 14).toNatClampNeg)).toNatClampNeg) (h72.2.1 6 ((90 * (hp.1 0 14)) + (hp.2.1 5 (hp.1 0 14).toNatClampNeg)).toNatClampNeg)) 8 (((90 * (hp.1 0 14)) + (hp.2.1 5 (hp.1 0 14).toNatClampNeg)).toNatClampNeg) (h72.2.1 4 (h72.1 0 14).toNatClampNeg)) 5 ((h72.1 0 14).toNatClampNeg) ((h72.2.1 5 (h72.1 0 14).toNatClampNeg) + 1)))))) ∧ (¬ r71 = 33 → Ev wM G 2 q_M_look [.ref 0] h70 (rI fun r77 h76 => (((if r77 = 40 then 1 else 0) : Int32) = 0 → Ev wM G 36 q_M_sum [.ref 0] h76 (rV fun h78 => ((h78.1 0 4) = (-1) → Ev wM G 2 q_M_look [.ref 0] h78 (rI fun r80 h79 => (((if (f_M_isSign r80) = 0 then 0 else 1) : Int32) = 0 → vp_in (h79.1 0 14) 5 ∧ (F (rx_pa (rx_pa (rx_pa h79 7 (((90 * (hp.1 0 14)) + (hp.2.1 5 (hp.1 0 14).toNatClampNeg)).toNatClampNeg) (h79.2.1 6 ((90 * (hp.1 0 14)) + (hp.2.1 5 (hp.1 0 14).toNatClampNeg)).toNatClampNeg)) 8 (((90 * (hp.1 0 14)) + (hp.2.1 5 (hp.1 0 14).toNatClampNeg)).toNatClampNeg) (h79.2.1 4 (h79.1 0 14).toNatClampNeg)) 5 ((h79.1 0 14).toNatClampNeg) ((h79.2.1 5 (h79.1 0 14).toNatClampNeg) + 1)))) ∧ (¬ ((if (f_M_isSign r80) = 0 then 0 else 1) : Int32) = 0 → Ev wM G 37 q_M_compare [.ref 0] h79 (rV fun h81 => Ev wM G 65 q_M_goOnAnd [.ref 0] h81 (rV fun h82 => Ev wM G 66 q_M_goOnOr [.ref 0] h82 (rV fun h83 => ((h83.1 0 4) = (-1) → Ev wM G 2 q_M_look [.ref 0] (rx_pa h83 7 (((90 * (hp.1 0 14)) + (hp.2.1 5 (hp.1 0 14).toNatClampNeg)).toNatClampNeg) (h83.2.1 6 ((90 * (hp.1 0 14)) + (hp.2.1 5 (hp.1 0 14).toNatClampNeg)).toNatClampNeg)) (rI fun r85 h84 => (r85 = 63 → vp_in (h84.1 0 14) 5 ∧ (Ev wM G 36 q_M_sum [.ref 0] (rx_pa (rx_pf h84 0 3 ((h84.1 0 3) + 1)) 7 (((90 * (hp.1 0 14)) + (hp.2.1 5 (hp.1 0 14).toNatClampNeg)).toNatClampNeg) (h84.2.1 4 (h84.1 0 14).toNatClampNeg)) (rV fun h86 => vp_in (h86.1 0 14) 5 ∧ (F (rx_pa (rx_pa h86 8 (((90 * (hp.1 0 14)) + (hp.2.1 5 (hp.1 0 14).toNatClampNeg)).toNatClampNeg) (h86.2.1 4 (h86.1 0 14).toNatClampNeg)) 5 ((h86.1 0 14).toNatClampNeg) ((h86.2.1 5 (h86.1 0 14).toNatClampNeg) + 1)))))) ∧ (¬ r85 = 63 → F (g_M_bad h84)))) ∧ (¬ (h83.1 0 4) = (-1) → vp_in (h83.1 0 14) 5 ∧ (F (rx_pa (rx_pa (rx_pa h83 7 (((90 * (hp.1 0 14)) + (hp.2.1 5 (hp.1 0 14).toNatClampNeg)).toNatClampNeg) (h83.2.1 6 ((90 * (hp.1 0 14)) + (hp.2.1 5 (hp.1 0 14).toNatClampNeg)).toNatClampNeg)) 8 (((90 * (hp.1 0 14)) + (hp.2.1 5 (hp.1 0 14).toNatClampNeg)).toNatClampNeg) (h83.2.1 4 (h83.1 0 14).toNatClampNeg)) 5 ((h83.1 0 14).toNatClampNeg) ((h83.2.1 5 (h83.1 0 14).toNatClampNeg) + 1)))))))))) ∧ (¬ (h78.1 0 4) = (-1) → vp_in (h78.1 0 14) 5 ∧ (F (rx_pa (rx_pa (rx_pa h78 7 (((90 * (hp.1 0 14)) + (hp.2.1 5 (hp.1 0 14).toNatClampNeg)).toNatClampNeg) (h78.2.1 6 ((90 * (hp.1 0 14)) + (hp.2.1 5 (hp.1 0 14).toNatClampNeg)).toNatClampNeg)) 8 (((90 * (hp.1 0 14)) + (hp.2.1 5 (hp.1 0 14).toNatClampNeg)).toNatClampNeg) (h78.2.1 4 (h78.1 0 14).toNatClampNeg)) 5 ((h78.1 0 14).toNatClampNeg) ((h78.2.1 5 (h78.1 0 14).toNatClampNeg) + 1)))))) ∧ (¬ ((if r77 = 40 then 1 else 0) : Int32) = 0 → Ev wM G 67 q_M_condition [.ref 0] h76 (rV fun h87 => ((h87.1 0 4) = (-1) → Ev wM G 2 q_M_look [.ref 0] (rx_pa h87 7 (((90 * (hp.1 0 14)) + (hp.2.1 5 (hp.1 0 14).toNatClampNeg)).toNatClampNeg) (h87.2.1 6 ((90 * (hp.1 0 14)) + (hp.2.1 5 (hp.1 0 14).toNatClampNeg)).toNatClampNeg)) (rI fun r89 h88 => (r89 = 63 → vp_in (h88.1 0 14) 5 ∧ (Ev wM G 36 q_M_sum [.ref 0] (rx_pa (rx_pf h88 0 3 ((h88.1 0 3) + 1)) 7 (((90 * (hp.1 0 14)) + (hp.2.1 5 (hp.1 0 14).toNatClampNeg)).toNatClampNeg) (h88.2.1 4 (h88.1 0 14).toNatClampNeg)) (rV fun h90 => vp_in (h90.1 0 14) 5 ∧ (F (rx_pa (rx_pa h90 8 (((90 * (hp.1 0 14)) + (hp.2.1 5 (hp.1 0 14).toNatClampNeg)).toNatClampNeg) (h90.2.1 4 (h90.1 0 14).toNatClampNeg)) 5 ((h90.1 0 14).toNatClampNeg) ((h90.2.1 5 (h90.1 0 14).toNatClampNeg) + 1)))))) ∧ (¬ r89 = 63 → F (g_M_bad h88)))) ∧ (¬ (h87.1 0 4) = (-1) → vp_in (h87.1 0 14) 5 ∧ (F (rx_pa (rx_pa (rx_pa h87 7 (((90 * (hp.1 0 14)) + (hp.2.1 5 (hp.1 0 14).toNatClampNeg)).toNatClampNeg) (h87.2.1 6 ((90 * (hp.1 0 14)) + (hp.2.1 5 (hp.1 0 14).toNatClampNeg)).toNatClampNeg)) 8 (((90 * (hp.1 0 14)) + (hp.2.1 5 (hp.1 0 14).toNatClampNeg)).toNatClampNeg) (h87.2.1 4 (h87.1 0 14).toNatClampNeg)) 5 ((h87.1 0 14).toNatClampNeg) ((h87.2.1 5 (h87.1 0 14).toNatClampNeg) + 1)))))))))))) ∧ (¬ ((g_M_bad h47).1 0 4) = (-1) → F (rx_pf (g_M_bad h47) 0 3 (((g_M_bad h47).1 0 3) + 1)))))) ∧ (¬ ((g_M_bad h1).1 0 4) = (-1) → F (rx_pf (rx_pf (g_M_bad h1) 0 3 (((g_M_bad h1).1 0 3) + 1)) 0 3 ((((g_M_bad h1).1 0 3) + 1) + 1)))))) ∧ (¬ (hp.1 0 4) = (-1) → F (rx_pf (rx_pf hp 0 3 ((hp.1 0 3) + 1)) 0 3 (((hp.1 0 3) + 1) + 1))))) : Ev wM G 75 q_M_clause [.ref 0] hp (rV F) := by
  refine ev_of rfl (Nat.le_of_ble_eq_true rfl) rfl ?_
  show Rn wM G 75 q_M_clause 0 [some (.ref 0), none, none] [] hp (rV F)
  refine r_bipush d_M_clause_0 bp_90 ?_
  refine r_aload_n (i := 0) d_M_clause_2 rfl rfl ?_
  refine r_getI (b := 0) (v := hp.1 0 14) d_M_clause_3 fl_M_103 (by decide) rfl rfl rfl ?_
  refine r_imul d_M_clause_6 ?_
  refine r_aload_n (i := 0) d_M_clause_7 rfl rfl ?_
  refine r_getR (b := 0) (r := 5) d_M_clause_8 fl_M_22 (by decide) rfl rfl rfl ?_
  refine r_aload_n (i := 0) d_M_clause_11 rfl rfl ?_
  refine r_getI (b := 0) (v := hp.1 0 14) d_M_clause_12 fl_M_103 (by decide) rfl rfl rfl ?_
  obtain ⟨hi_15, H⟩ := H
  refine r_iald (b := 5) (v := hp.2.1 5 (hp.1 0 14).toNatClampNeg) d_M_clause_15 (by decide) rfl hi_15 rfl ?_
  refine r_iadd d_M_clause_16 ?_
  refine r_istore_n (i := 1) (lz := [some (.ref 0), some (.int ((90 * (hp.1 0 14)) + (hp.2.1 5 (hp.1 0 14).toNatClampNeg))), none]) d_M_clause_17 rfl (by decide) rfl rfl ?_
  refine r_aload_n (i := 0) d_M_clause_18 rfl rfl ?_
  refine r_getI (b := 0) (v := hp.1 0 4) d_M_clause_19 fl_M_100 (by decide) rfl rfl rfl ?_
  refine r_iconst d_M_clause_22 ic_m1 ?_
  refine r_icmp_ne (tgt := 39) d_M_clause_23 (by decide) (fun hc_23 => ?_) (fun hc_23 => ?_)
  · replace H := H.2 hc_23
    refine r_aload_n (i := 0) d_M_clause_39 rfl rfl ?_
    refine r_dupr d_M_clause_40 ?_
    refine r_getI (b := 0) (v := hp.1 0 3) d_M_clause_41 fl_M_93 (by decide) rfl rfl rfl ?_
    refine r_iconst d_M_clause_44 ic_1 ?_
    refine r_iadd d_M_clause_45 ?_
    refine r_putI (b := 0) d_M_clause_46 fp_M_93 ⟨rfl, rfl⟩ (by decide) rfl rfl ?_
    refine r_aload_n (i := 0) d_M_clause_49 rfl rfl ?_
    refine r_getI (b := 0) (v := hp.1 0 4) d_M_clause_50 fl_M_100 (by decide) rfl rfl rfl ?_
    refine r_iconst d_M_clause_53 ic_m1 ?_
    refine r_icmp_ne (tgt := 70) d_M_clause_54 (by decide) (fun _ => ?_) (fun h => absurd h hc_23)
    refine r_aload_n (i := 0) d_M_clause_70 rfl rfl ?_
    refine r_dupr d_M_clause_71 ?_
    refine r_getI (b := 0) (v := ((hp.1 0 3) + 1)) d_M_clause_72 fl_M_93 (by decide) rfl rfl rfl ?_
    refine r_iconst d_M_clause_75 ic_1 ?_
    refine r_iadd d_M_clause_76 ?_
    refine r_putI (b := 0) d_M_clause_77 fp_M_93 ⟨rfl, rfl⟩ (by decide) rfl rfl ?_
    refine r_aload_n (i := 0) d_M_clause_80 rfl rfl ?_
    refine r_getI (b := 0) (v := hp.1 0 4) d_M_clause_81 fl_M_100 (by decide) rfl rfl rfl ?_
    refine r_iconst d_M_clause_84 ic_m1 ?_
    refine r_icmp_eq (tgt := 89) d_M_clause_85 (by decide) (fun h => absurd h hc_23) (fun _ => ?_)
    exact rV_ret d_M_clause_88 rfl H
  · replace H := H.1 hc_23
    refine r_aload_n (i := 0) d_M_clause_26 rfl rfl ?_
    refine rc_VI (b := 0) (d' := 2) [] [] d_M_clause_27 ml_M_112 rfl rfl (by decide) (by decide) rfl rfl (Nat.le_of_ble_eq_true rfl) H ?_
    intro r2 h1 H
    refine r_bipush d_M_clause_30 bp_121 ?_
    refine r_icmp_eq (tgt := 39) d_M_clause_32 (by decide) (fun hc_32 => ?_) (fun hc_32 => ?_)
    · replace H := H.1 hc_32
      refine r_aload_n (i := 0) d_M_clause_39 rfl rfl ?_
      refine r_dupr d_M_clause_40 ?_
      refine r_getI (b := 0) (v := h1.1 0 3) d_M_clause_41 fl_M_93 (by decide) rfl rfl rfl ?_
      refine r_iconst d_M_clause_44 ic_1 ?_
      refine r_iadd d_M_clause_45 ?_
      refine r_putI (b := 0) d_M_clause_46 fp_M_93 ⟨rfl, rfl⟩ (by decide) rfl rfl ?_
      refine r_aload_n (i := 0) d_M_clause_49 rfl rfl ?_
      refine r_getI (b := 0) (v := h1.1 0 4) d_M_clause_50 fl_M_100 (by decide) rfl rfl rfl ?_
      refine r_iconst d_M_clause_53 ic_m1 ?_
      refine r_icmp_ne (tgt := 70) d_M_clause_54 (by decide) (fun hc_54 => ?_) (fun hc_54 => ?_)
      · replace H := H.2 hc_54
        refine r_aload_n (i := 0) d_M_clause_70 rfl rfl ?_
        refine r_dupr d_M_clause_71 ?_
        refine r_getI (b := 0) (v := ((h1.1 0 3) + 1)) d_M_clause_72 fl_M_93 (by decide) rfl rfl rfl ?_
        refine r_iconst d_M_clause_75 ic_1 ?_
        refine r_iadd d_M_clause_76 ?_
        refine r_putI (b := 0) d_M_clause_77 fp_M_93 ⟨rfl, rfl⟩ (by decide) rfl rfl ?_
        refine r_aload_n (i := 0) d_M_clause_80 rfl rfl ?_
        refine r_getI (b := 0) (v := h1.1 0 4) d_M_clause_81 fl_M_100 (by decide) rfl rfl rfl ?_
        refine r_iconst d_M_clause_84 ic_m1 ?_
        refine r_icmp_eq (tgt := 89) d_M_clause_85 (by decide) (fun h => absurd h hc_54) (fun _ => ?_)
        exact rV_ret d_M_clause_88 rfl H
      · replace H := H.1 hc_54
        refine r_aload_n (i := 0) d_M_clause_57 rfl rfl ?_
        refine rc_VI (b := 0) (d' := 2) [] [] d_M_clause_58 ml_M_112 rfl rfl (by decide) (by decide) rfl rfl (Nat.le_of_ble_eq_true rfl) H ?_
        intro r4 h3 H
        refine r_bipush d_M_clause_61 bp_58 ?_
        refine r_icmp_eq (tgt := 70) d_M_clause_63 (by decide) (fun hc_63 => ?_) (fun hc_63 => ?_)
        · replace H := H.1 hc_63
          refine r_aload_n (i := 0) d_M_clause_70 rfl rfl ?_
          refine r_dupr d_M_clause_71 ?_
          refine r_getI (b := 0) (v := h3.1 0 3) d_M_clause_72 fl_M_93 (by decide) rfl rfl rfl ?_
          refine r_iconst d_M_clause_75 ic_1 ?_
          refine r_iadd d_M_clause_76 ?_
          refine r_putI (b := 0) d_M_clause_77 fp_M_93 ⟨rfl, rfl⟩ (by decide) rfl rfl ?_
          refine r_aload_n (i := 0) d_M_clause_80 rfl rfl ?_
          refine r_getI (b := 0) (v := h3.1 0 4) d_M_clause_81 fl_M_100 (by decide) rfl rfl rfl ?_
          refine r_iconst d_M_clause_84 ic_m1 ?_
          refine r_icmp_eq (tgt := 89) d_M_clause_85 (by decide) (fun hc_85 => ?_) (fun hc_85 => ?_)
          · replace H := H.1 hc_85
            refine r_aload_n (i := 0) d_M_clause_89 rfl rfl ?_
            refine r_getR (b := 0) (r := 6) d_M_clause_90 fl_M_25 (by decide) rfl rfl rfl ?_
            refine r_iload_n (i := 1) d_M_clause_93 rfl rfl ?_
            refine r_aload_n (i := 0) d_M_clause_94 rfl rfl ?_
            refine r_getR (b := 0) (r := 4) d_M_clause_95 fl_M_19 (by decide) rfl rfl rfl ?_
            refine r_aload_n (i := 0) d_M_clause_98 rfl rfl ?_
            refine r_getI (b := 0) (v := h3.1 0 14) d_M_clause_99 fl_M_103 (by decide) rfl rfl rfl ?_
            obtain ⟨hi_102, H⟩ := H
            refine r_iald (b := 4) (v := h3.2.1 4 (h3.1 0 14).toNatClampNeg) d_M_clause_102 (by decide) rfl hi_102 rfl ?_
            obtain ⟨hi_103, H⟩ := H
            refine r_iast (b := 6) (i := ((90 * (hp.1 0 14)) + (hp.2.1 5 (hp.1 0 14).toNatClampNeg)).toNatClampNeg) d_M_clause_103 (by decide) rfl hi_103 rfl ?_
            refine r_aload_n (i := 0) d_M_clause_104 rfl rfl ?_
            refine rc_VI (b := 0) (d' := 2) [] [] d_M_clause_105 ml_M_112 rfl rfl (by decide) (by decide) rfl rfl (Nat.le_of_ble_eq_true rfl) H ?_
            intro r6 h5 H
            refine r_bipush d_M_clause_108 bp_33 ?_
            refine r_icmp_eq (tgt := 122) d_M_clause_110 (by decide) (fun hc_110 => ?_) (fun hc_110 => ?_)
            · replace H := H.1 hc_110
              refine r_iconst d_M_clause_122 ic_1 ?_
              refine r_goto (tgt := 127) d_M_clause_123 (by decide) ?_
              refine r_istore_n (i := 2) (lz := [some (.ref 0), some (.int ((90 * (hp.1 0 14)) + (hp.2.1 5 (hp.1 0 14).toNatClampNeg))), some (.int 1)]) d_M_clause_127 rfl (by decide) rfl rfl ?_
              refine r_iload_n (i := 2) d_M_clause_128 rfl rfl ?_
              refine r_if_eq (tgt := 139) d_M_clause_129 (by decide) (fun h => absurd h (by decide)) (fun _ => ?_)
              refine r_aload_n (i := 0) d_M_clause_132 rfl rfl ?_
              refine rc_VV (b := 0) (d' := 67) [] [] d_M_clause_133 ml_M_152 rfl rfl (by decide) (by decide) rfl rfl (Nat.le_of_ble_eq_true rfl) H ?_
              intro h7 H
              refine r_goto (tgt := 183) d_M_clause_136 (by decide) ?_
              refine r_aload_n (i := 0) d_M_clause_183 rfl rfl ?_
              refine r_getR (b := 0) (r := 7) d_M_clause_184 fl_M_28 (by decide) rfl rfl rfl ?_
              refine r_iload_n (i := 1) d_M_clause_187 rfl rfl ?_
              refine r_aload_n (i := 0) d_M_clause_188 rfl rfl ?_
              refine r_getR (b := 0) (r := 6) d_M_clause_189 fl_M_25 (by decide) rfl rfl rfl ?_
              refine r_iload_n (i := 1) d_M_clause_192 rfl rfl ?_
              refine r_iald (b := 6) (v := h7.2.1 6 ((90 * (hp.1 0 14)) + (hp.2.1 5 (hp.1 0 14).toNatClampNeg)).toNatClampNeg) d_M_clause_193 (by decide) rfl hi_103 rfl ?_
              refine r_iast (b := 7) (i := ((90 * (hp.1 0 14)) + (hp.2.1 5 (hp.1 0 14).toNatClampNeg)).toNatClampNeg) d_M_clause_194 (by decide) rfl hi_103 rfl ?_
              refine r_iload_n (i := 2) d_M_clause_195 rfl rfl ?_
              refine r_if_eq (tgt := 250) d_M_clause_196 (by decide) (fun h => absurd h (by decide)) (fun _ => ?_)
              refine r_aload_n (i := 0) d_M_clause_199 rfl rfl ?_
              refine r_getI (b := 0) (v := h7.1 0 4) d_M_clause_200 fl_M_100 (by decide) rfl rfl rfl ?_
              refine r_iconst d_M_clause_203 ic_m1 ?_
              refine r_icmp_ne (tgt := 250) d_M_clause_204 (by decide) (fun hc_204 => ?_) (fun hc_204 => ?_)
              · replace H := H.2 hc_204
                refine r_aload_n (i := 0) d_M_clause_250 rfl rfl ?_
                refine r_getR (b := 0) (r := 8) d_M_clause_251 fl_M_31 (by decide) rfl rfl rfl ?_
                refine r_iload_n (i := 1) d_M_clause_254 rfl rfl ?_
                refine r_aload_n (i := 0) d_M_clause_255 rfl rfl ?_
                refine r_getR (b := 0) (r := 4) d_M_clause_256 fl_M_19 (by decide) rfl rfl rfl ?_
                refine r_aload_n (i := 0) d_M_clause_259 rfl rfl ?_
                refine r_getI (b := 0) (v := h7.1 0 14) d_M_clause_260 fl_M_103 (by decide) rfl rfl rfl ?_
                obtain ⟨hi_263, H⟩ := H
                refine r_iald (b := 4) (v := h7.2.1 4 (h7.1 0 14).toNatClampNeg) d_M_clause_263 (by decide) rfl hi_263 rfl ?_
                refine r_iast (b := 8) (i := ((90 * (hp.1 0 14)) + (hp.2.1 5 (hp.1 0 14).toNatClampNeg)).toNatClampNeg) d_M_clause_264 (by decide) rfl hi_103 rfl ?_
                refine r_aload_n (i := 0) d_M_clause_265 rfl rfl ?_
                refine r_getR (b := 0) (r := 5) d_M_clause_266 fl_M_22 (by decide) rfl rfl rfl ?_
                refine r_aload_n (i := 0) d_M_clause_269 rfl rfl ?_
                refine r_getI (b := 0) (v := h7.1 0 14) d_M_clause_270 fl_M_103 (by decide) rfl rfl rfl ?_
                refine r_dup2 d_M_clause_273 ?_
                refine r_iald (b := 5) (v := h7.2.1 5 (h7.1 0 14).toNatClampNeg) d_M_clause_274 (by decide) rfl hi_263 rfl ?_
                refine r_iconst d_M_clause_275 ic_1 ?_
                refine r_iadd d_M_clause_276 ?_
                refine r_iast (b := 5) (i := (h7.1 0 14).toNatClampNeg) d_M_clause_277 (by decide) rfl hi_263 rfl ?_
                exact rV_ret d_M_clause_278 rfl H
              · replace H := H.1 hc_204
                refine r_aload_n (i := 0) d_M_clause_207 rfl rfl ?_
                refine rc_VI (b := 0) (d' := 2) [] [] d_M_clause_208 ml_M_112 rfl rfl (by decide) (by decide) rfl rfl (Nat.le_of_ble_eq_true rfl) H ?_
                intro r9 h8 H
                refine r_bipush d_M_clause_211 bp_63 ?_
                refine r_icmp_eq (tgt := 221) d_M_clause_213 (by decide) (fun hc_213 => ?_) (fun hc_213 => ?_)
                · replace H := H.1 hc_213
                  refine r_aload_n (i := 0) d_M_clause_221 rfl rfl ?_
                  refine r_dupr d_M_clause_222 ?_
                  refine r_getI (b := 0) (v := h8.1 0 3) d_M_clause_223 fl_M_93 (by decide) rfl rfl rfl ?_
                  refine r_iconst d_M_clause_226 ic_1 ?_
                  refine r_iadd d_M_clause_227 ?_
                  refine r_putI (b := 0) d_M_clause_228 fp_M_93 ⟨rfl, rfl⟩ (by decide) rfl rfl ?_
                  refine r_aload_n (i := 0) d_M_clause_231 rfl rfl ?_
                  refine r_getR (b := 0) (r := 7) d_M_clause_232 fl_M_28 (by decide) rfl rfl rfl ?_
                  refine r_iload_n (i := 1) d_M_clause_235 rfl rfl ?_
                  refine r_aload_n (i := 0) d_M_clause_236 rfl rfl ?_
                  refine r_getR (b := 0) (r := 4) d_M_clause_237 fl_M_19 (by decide) rfl rfl rfl ?_
                  refine r_aload_n (i := 0) d_M_clause_240 rfl rfl ?_
                  refine r_getI (b := 0) (v := h8.1 0 14) d_M_clause_241 fl_M_103 (by decide) rfl rfl rfl ?_
                  obtain ⟨hi_244, H⟩ := H
                  refine r_iald (b := 4) (v := h8.2.1 4 (h8.1 0 14).toNatClampNeg) d_M_clause_244 (by decide) rfl hi_244 rfl ?_
                  refine r_iast (b := 7) (i := ((90 * (hp.1 0 14)) + (hp.2.1 5 (hp.1 0 14).toNatClampNeg)).toNatClampNeg) d_M_clause_245 (by decide) rfl hi_103 rfl ?_
                  refine r_aload_n (i := 0) d_M_clause_246 rfl rfl ?_
                  refine rc_VV (b := 0) (d' := 36) [] [] d_M_clause_247 ml_M_133 rfl rfl (by decide) (by decide) rfl rfl (Nat.le_of_ble_eq_true rfl) H ?_
                  intro h10 H
                  refine r_aload_n (i := 0) d_M_clause_250 rfl rfl ?_
                  refine r_getR (b := 0) (r := 8) d_M_clause_251 fl_M_31 (by decide) rfl rfl rfl ?_
                  refine r_iload_n (i := 1) d_M_clause_254 rfl rfl ?_
                  refine r_aload_n (i := 0) d_M_clause_255 rfl rfl ?_
                  refine r_getR (b := 0) (r := 4) d_M_clause_256 fl_M_19 (by decide) rfl rfl rfl ?_
                  refine r_aload_n (i := 0) d_M_clause_259 rfl rfl ?_
                  refine r_getI (b := 0) (v := h10.1 0 14) d_M_clause_260 fl_M_103 (by decide) rfl rfl rfl ?_
                  obtain ⟨hi_263, H⟩ := H
                  refine r_iald (b := 4) (v := h10.2.1 4 (h10.1 0 14).toNatClampNeg) d_M_clause_263 (by decide) rfl hi_263 rfl ?_
                  refine r_iast (b := 8) (i := ((90 * (hp.1 0 14)) + (hp.2.1 5 (hp.1 0 14).toNatClampNeg)).toNatClampNeg) d_M_clause_264 (by decide) rfl hi_103 rfl ?_
                  refine r_aload_n (i := 0) d_M_clause_265 rfl rfl ?_
                  refine r_getR (b := 0) (r := 5) d_M_clause_266 fl_M_22 (by decide) rfl rfl rfl ?_
                  refine r_aload_n (i := 0) d_M_clause_269 rfl rfl ?_
                  refine r_getI (b := 0) (v := h10.1 0 14) d_M_clause_270 fl_M_103 (by decide) rfl rfl rfl ?_
                  refine r_dup2 d_M_clause_273 ?_
                  refine r_iald (b := 5) (v := h10.2.1 5 (h10.1 0 14).toNatClampNeg) d_M_clause_274 (by decide) rfl hi_263 rfl ?_
                  refine r_iconst d_M_clause_275 ic_1 ?_
                  refine r_iadd d_M_clause_276 ?_
                  refine r_iast (b := 5) (i := (h10.1 0 14).toNatClampNeg) d_M_clause_277 (by decide) rfl hi_263 rfl ?_
                  exact rV_ret d_M_clause_278 rfl H
                · replace H := H.2 hc_213
                  refine r_aload_n (i := 0) d_M_clause_216 rfl rfl ?_
                  refine rk_VV (b := 0) (d' := 1) [] [] d_M_clause_217 ml_M_109 rfl rfl (by decide) (by decide) rfl rfl (Nat.le_of_ble_eq_true rfl) (s_M_bad  ?_)
                  exact rV_ret d_M_clause_220 rfl H
            · replace H := H.2 hc_110
              refine r_aload_n (i := 0) d_M_clause_113 rfl rfl ?_
              refine rc_VI (b := 0) (d' := 2) [] [] d_M_clause_114 ml_M_112 rfl rfl (by decide) (by decide) rfl rfl (Nat.le_of_ble_eq_true rfl) H ?_
              intro r12 h11 H
              have J119 : ∀ (v119_0 : Int32), v119_0 = ((if r12 = 40 then 1 else 0) : Int32) → Rn wM G 75 q_M_clause 127 [some (.ref 0), some (.int ((90 * (hp.1 0 14)) + (hp.2.1 5 (hp.1 0 14).toNatClampNeg))), none] [.int v119_0] h11 (rV F) := by
                rintro _ rfl
                refine r_istore_n (i := 2) (lz := [some (.ref 0), some (.int ((90 * (hp.1 0 14)) + (hp.2.1 5 (hp.1 0 14).toNatClampNeg))), some (.int ((if r12 = 40 then 1 else 0) : Int32))]) d_M_clause_127 rfl (by decide) rfl rfl ?_
                refine r_iload_n (i := 2) d_M_clause_128 rfl rfl ?_
                refine r_if_eq (tgt := 139) d_M_clause_129 (by decide) (fun hc_129 => ?_) (fun hc_129 => ?_)
                · replace H := H.1 hc_129
                  refine r_aload_n (i := 0) d_M_clause_139 rfl rfl ?_
                  refine rc_VV (b := 0) (d' := 36) [] [] d_M_clause_140 ml_M_133 rfl rfl (by decide) (by decide) rfl rfl (Nat.le_of_ble_eq_true rfl) H ?_
                  intro h13 H
                  refine r_aload_n (i := 0) d_M_clause_143 rfl rfl ?_
                  refine r_getI (b := 0) (v := h13.1 0 4) d_M_clause_144 fl_M_100 (by decide) rfl rfl rfl ?_
                  refine r_iconst d_M_clause_147 ic_m1 ?_
                  refine r_icmp_ne (tgt := 165) d_M_clause_148 (by decide) (fun hc_148 => ?_) (fun hc_148 => ?_)
                  · replace H := H.2 hc_148
                    refine r_iconst d_M_clause_165 ic_0 ?_
                    refine r_istore_n (i := 2) (lz := [some (.ref 0), some (.int ((90 * (hp.1 0 14)) + (hp.2.1 5 (hp.1 0 14).toNatClampNeg))), some (.int 0)]) d_M_clause_166 rfl (by decide) rfl rfl ?_
                    refine r_iload_n (i := 2) d_M_clause_167 rfl rfl ?_
                    refine r_if_eq (tgt := 183) d_M_clause_168 (by decide) (fun _ => ?_) (fun h => absurd (by decide) h)
                    refine r_aload_n (i := 0) d_M_clause_183 rfl rfl ?_
                    refine r_getR (b := 0) (r := 7) d_M_clause_184 fl_M_28 (by decide) rfl rfl rfl ?_
                    refine r_iload_n (i := 1) d_M_clause_187 rfl rfl ?_
                    refine r_aload_n (i := 0) d_M_clause_188 rfl rfl ?_
                    refine r_getR (b := 0) (r := 6) d_M_clause_189 fl_M_25 (by decide) rfl rfl rfl ?_
                    refine r_iload_n (i := 1) d_M_clause_192 rfl rfl ?_
                    refine r_iald (b := 6) (v := h13.2.1 6 ((90 * (hp.1 0 14)) + (hp.2.1 5 (hp.1 0 14).toNatClampNeg)).toNatClampNeg) d_M_clause_193 (by decide) rfl hi_103 rfl ?_
                    refine r_iast (b := 7) (i := ((90 * (hp.1 0 14)) + (hp.2.1 5 (hp.1 0 14).toNatClampNeg)).toNatClampNeg) d_M_clause_194 (by decide) rfl hi_103 rfl ?_
                    refine r_iload_n (i := 2) d_M_clause_195 rfl rfl ?_
                    refine r_if_eq (tgt := 250) d_M_clause_196 (by decide) (fun _ => ?_) (fun h => absurd (by decide) h)
                    refine r_aload_n (i := 0) d_M_clause_250 rfl rfl ?_
                    refine r_getR (b := 0) (r := 8) d_M_clause_251 fl_M_31 (by decide) rfl rfl rfl ?_
                    refine r_iload_n (i := 1) d_M_clause_254 rfl rfl ?_
                    refine r_aload_n (i := 0) d_M_clause_255 rfl rfl ?_
                    refine r_getR (b := 0) (r := 4) d_M_clause_256 fl_M_19 (by decide) rfl rfl rfl ?_
                    refine r_aload_n (i := 0) d_M_clause_259 rfl rfl ?_
                    refine r_getI (b := 0) (v := h13.1 0 14) d_M_clause_260 fl_M_103 (by decide) rfl rfl rfl ?_
                    obtain ⟨hi_263, H⟩ := H
                    refine r_iald (b := 4) (v := h13.2.1 4 (h13.1 0 14).toNatClampNeg) d_M_clause_263 (by decide) rfl hi_263 rfl ?_
                    refine r_iast (b := 8) (i := ((90 * (hp.1 0 14)) + (hp.2.1 5 (hp.1 0 14).toNatClampNeg)).toNatClampNeg) d_M_clause_264 (by decide) rfl hi_103 rfl ?_
                    refine r_aload_n (i := 0) d_M_clause_265 rfl rfl ?_
                    refine r_getR (b := 0) (r := 5) d_M_clause_266 fl_M_22 (by decide) rfl rfl rfl ?_
                    refine r_aload_n (i := 0) d_M_clause_269 rfl rfl ?_
                    refine r_getI (b := 0) (v := h13.1 0 14) d_M_clause_270 fl_M_103 (by decide) rfl rfl rfl ?_
                    refine r_dup2 d_M_clause_273 ?_
                    refine r_iald (b := 5) (v := h13.2.1 5 (h13.1 0 14).toNatClampNeg) d_M_clause_274 (by decide) rfl hi_263 rfl ?_
                    refine r_iconst d_M_clause_275 ic_1 ?_
                    refine r_iadd d_M_clause_276 ?_
                    refine r_iast (b := 5) (i := (h13.1 0 14).toNatClampNeg) d_M_clause_277 (by decide) rfl hi_263 rfl ?_
                    exact rV_ret d_M_clause_278 rfl H
                  · replace H := H.1 hc_148
                    refine r_aload_n (i := 0) d_M_clause_151 rfl rfl ?_
                    refine rc_VI (b := 0) (d' := 2) [] [] d_M_clause_152 ml_M_112 rfl rfl (by decide) (by decide) rfl rfl (Nat.le_of_ble_eq_true rfl) H ?_
                    intro r15 h14 H
                    have J158 : ∀ (v158_0 : Int32), v158_0 = ((if (f_M_isSign r15) = 0 then 0 else 1) : Int32) → Rn wM G 75 q_M_clause 166 [some (.ref 0), some (.int ((90 * (hp.1 0 14)) + (hp.2.1 5 (hp.1 0 14).toNatClampNeg))), some (.int ((if r12 = 40 then 1 else 0) : Int32))] [.int v158_0] h14 (rV F) := by
                      rintro _ rfl
                      refine r_istore_n (i := 2) (lz := [some (.ref 0), some (.int ((90 * (hp.1 0 14)) + (hp.2.1 5 (hp.1 0 14).toNatClampNeg))), some (.int ((if (f_M_isSign r15) = 0 then 0 else 1) : Int32))]) d_M_clause_166 rfl (by decide) rfl rfl ?_
                      refine r_iload_n (i := 2) d_M_clause_167 rfl rfl ?_
                      refine r_if_eq (tgt := 183) d_M_clause_168 (by decide) (fun hc_168 => ?_) (fun hc_168 => ?_)
                      · replace H := H.1 hc_168
                        refine r_aload_n (i := 0) d_M_clause_183 rfl rfl ?_
                        refine r_getR (b := 0) (r := 7) d_M_clause_184 fl_M_28 (by decide) rfl rfl rfl ?_
                        refine r_iload_n (i := 1) d_M_clause_187 rfl rfl ?_
                        refine r_aload_n (i := 0) d_M_clause_188 rfl rfl ?_
                        refine r_getR (b := 0) (r := 6) d_M_clause_189 fl_M_25 (by decide) rfl rfl rfl ?_
                        refine r_iload_n (i := 1) d_M_clause_192 rfl rfl ?_
                        refine r_iald (b := 6) (v := h14.2.1 6 ((90 * (hp.1 0 14)) + (hp.2.1 5 (hp.1 0 14).toNatClampNeg)).toNatClampNeg) d_M_clause_193 (by decide) rfl hi_103 rfl ?_
                        refine r_iast (b := 7) (i := ((90 * (hp.1 0 14)) + (hp.2.1 5 (hp.1 0 14).toNatClampNeg)).toNatClampNeg) d_M_clause_194 (by decide) rfl hi_103 rfl ?_
                        refine r_iload_n (i := 2) d_M_clause_195 rfl rfl ?_
                        refine r_if_eq (tgt := 250) d_M_clause_196 (by decide) (fun _ => ?_) (fun h => absurd hc_168 h)
                        refine r_aload_n (i := 0) d_M_clause_250 rfl rfl ?_
                        refine r_getR (b := 0) (r := 8) d_M_clause_251 fl_M_31 (by decide) rfl rfl rfl ?_
                        refine r_iload_n (i := 1) d_M_clause_254 rfl rfl ?_
                        refine r_aload_n (i := 0) d_M_clause_255 rfl rfl ?_
                        refine r_getR (b := 0) (r := 4) d_M_clause_256 fl_M_19 (by decide) rfl rfl rfl ?_
                        refine r_aload_n (i := 0) d_M_clause_259 rfl rfl ?_
                        refine r_getI (b := 0) (v := h14.1 0 14) d_M_clause_260 fl_M_103 (by decide) rfl rfl rfl ?_
                        obtain ⟨hi_263, H⟩ := H
                        refine r_iald (b := 4) (v := h14.2.1 4 (h14.1 0 14).toNatClampNeg) d_M_clause_263 (by decide) rfl hi_263 rfl ?_
                        refine r_iast (b := 8) (i := ((90 * (hp.1 0 14)) + (hp.2.1 5 (hp.1 0 14).toNatClampNeg)).toNatClampNeg) d_M_clause_264 (by decide) rfl hi_103 rfl ?_
                        refine r_aload_n (i := 0) d_M_clause_265 rfl rfl ?_
                        refine r_getR (b := 0) (r := 5) d_M_clause_266 fl_M_22 (by decide) rfl rfl rfl ?_
                        refine r_aload_n (i := 0) d_M_clause_269 rfl rfl ?_
                        refine r_getI (b := 0) (v := h14.1 0 14) d_M_clause_270 fl_M_103 (by decide) rfl rfl rfl ?_
                        refine r_dup2 d_M_clause_273 ?_
                        refine r_iald (b := 5) (v := h14.2.1 5 (h14.1 0 14).toNatClampNeg) d_M_clause_274 (by decide) rfl hi_263 rfl ?_
                        refine r_iconst d_M_clause_275 ic_1 ?_
                        refine r_iadd d_M_clause_276 ?_
                        refine r_iast (b := 5) (i := (h14.1 0 14).toNatClampNeg) d_M_clause_277 (by decide) rfl hi_263 rfl ?_
                        exact rV_ret d_M_clause_278 rfl H
                      · replace H := H.2 hc_168
                        refine r_aload_n (i := 0) d_M_clause_171 rfl rfl ?_
                        refine rc_VV (b := 0) (d' := 37) [] [] d_M_clause_172 ml_M_155 rfl rfl (by decide) (by decide) rfl rfl (Nat.le_of_ble_eq_true rfl) H ?_
                        intro h16 H
                        refine r_aload_n (i := 0) d_M_clause_175 rfl rfl ?_
                        refine rc_VV (b := 0) (d' := 65) [] [] d_M_clause_176 ml_M_158 rfl rfl (by decide) (by decide) rfl rfl (Nat.le_of_ble_eq_true rfl) H ?_
                        intro h17 H
                        refine r_aload_n (i := 0) d_M_clause_179 rfl rfl ?_
                        refine rc_VV (b := 0) (d' := 66) [] [] d_M_clause_180 ml_M_161 rfl rfl (by decide) (by decide) rfl rfl (Nat.le_of_ble_eq_true rfl) H ?_
                        intro h18 H
                        refine r_aload_n (i := 0) d_M_clause_183 rfl rfl ?_
                        refine r_getR (b := 0) (r := 7) d_M_clause_184 fl_M_28 (by decide) rfl rfl rfl ?_
                        refine r_iload_n (i := 1) d_M_clause_187 rfl rfl ?_
                        refine r_aload_n (i := 0) d_M_clause_188 rfl rfl ?_
                        refine r_getR (b := 0) (r := 6) d_M_clause_189 fl_M_25 (by decide) rfl rfl rfl ?_
                        refine r_iload_n (i := 1) d_M_clause_192 rfl rfl ?_
                        refine r_iald (b := 6) (v := h18.2.1 6 ((90 * (hp.1 0 14)) + (hp.2.1 5 (hp.1 0 14).toNatClampNeg)).toNatClampNeg) d_M_clause_193 (by decide) rfl hi_103 rfl ?_
                        refine r_iast (b := 7) (i := ((90 * (hp.1 0 14)) + (hp.2.1 5 (hp.1 0 14).toNatClampNeg)).toNatClampNeg) d_M_clause_194 (by decide) rfl hi_103 rfl ?_
                        refine r_iload_n (i := 2) d_M_clause_195 rfl rfl ?_
                        refine r_if_eq (tgt := 250) d_M_clause_196 (by decide) (fun h => absurd h hc_168) (fun _ => ?_)
                        refine r_aload_n (i := 0) d_M_clause_199 rfl rfl ?_
                        refine r_getI (b := 0) (v := h18.1 0 4) d_M_clause_200 fl_M_100 (by decide) rfl rfl rfl ?_
                        refine r_iconst d_M_clause_203 ic_m1 ?_
                        refine r_icmp_ne (tgt := 250) d_M_clause_204 (by decide) (fun hc_204 => ?_) (fun hc_204 => ?_)
                        · replace H := H.2 hc_204
                          refine r_aload_n (i := 0) d_M_clause_250 rfl rfl ?_
                          refine r_getR (b := 0) (r := 8) d_M_clause_251 fl_M_31 (by decide) rfl rfl rfl ?_
                          refine r_iload_n (i := 1) d_M_clause_254 rfl rfl ?_
                          refine r_aload_n (i := 0) d_M_clause_255 rfl rfl ?_
                          refine r_getR (b := 0) (r := 4) d_M_clause_256 fl_M_19 (by decide) rfl rfl rfl ?_
                          refine r_aload_n (i := 0) d_M_clause_259 rfl rfl ?_
                          refine r_getI (b := 0) (v := h18.1 0 14) d_M_clause_260 fl_M_103 (by decide) rfl rfl rfl ?_
                          obtain ⟨hi_263, H⟩ := H
                          refine r_iald (b := 4) (v := h18.2.1 4 (h18.1 0 14).toNatClampNeg) d_M_clause_263 (by decide) rfl hi_263 rfl ?_
                          refine r_iast (b := 8) (i := ((90 * (hp.1 0 14)) + (hp.2.1 5 (hp.1 0 14).toNatClampNeg)).toNatClampNeg) d_M_clause_264 (by decide) rfl hi_103 rfl ?_
                          refine r_aload_n (i := 0) d_M_clause_265 rfl rfl ?_
                          refine r_getR (b := 0) (r := 5) d_M_clause_266 fl_M_22 (by decide) rfl rfl rfl ?_
                          refine r_aload_n (i := 0) d_M_clause_269 rfl rfl ?_
                          refine r_getI (b := 0) (v := h18.1 0 14) d_M_clause_270 fl_M_103 (by decide) rfl rfl rfl ?_
                          refine r_dup2 d_M_clause_273 ?_
                          refine r_iald (b := 5) (v := h18.2.1 5 (h18.1 0 14).toNatClampNeg) d_M_clause_274 (by decide) rfl hi_263 rfl ?_
                          refine r_iconst d_M_clause_275 ic_1 ?_
                          refine r_iadd d_M_clause_276 ?_
                          refine r_iast (b := 5) (i := (h18.1 0 14).toNatClampNeg) d_M_clause_277 (by decide) rfl hi_263 rfl ?_
                          exact rV_ret d_M_clause_278 rfl H
                        · replace H := H.1 hc_204
                          refine r_aload_n (i := 0) d_M_clause_207 rfl rfl ?_
                          refine rc_VI (b := 0) (d' := 2) [] [] d_M_clause_208 ml_M_112 rfl rfl (by decide) (by decide) rfl rfl (Nat.le_of_ble_eq_true rfl) H ?_
                          intro r20 h19 H
                          refine r_bipush d_M_clause_211 bp_63 ?_
                          refine r_icmp_eq (tgt := 221) d_M_clause_213 (by decide) (fun hc_213 => ?_) (fun hc_213 => ?_)
                          · replace H := H.1 hc_213
                            refine r_aload_n (i := 0) d_M_clause_221 rfl rfl ?_
                            refine r_dupr d_M_clause_222 ?_
                            refine r_getI (b := 0) (v := h19.1 0 3) d_M_clause_223 fl_M_93 (by decide) rfl rfl rfl ?_
                            refine r_iconst d_M_clause_226 ic_1 ?_
                            refine r_iadd d_M_clause_227 ?_
                            refine r_putI (b := 0) d_M_clause_228 fp_M_93 ⟨rfl, rfl⟩ (by decide) rfl rfl ?_
                            refine r_aload_n (i := 0) d_M_clause_231 rfl rfl ?_
                            refine r_getR (b := 0) (r := 7) d_M_clause_232 fl_M_28 (by decide) rfl rfl rfl ?_
                            refine r_iload_n (i := 1) d_M_clause_235 rfl rfl ?_
                            refine r_aload_n (i := 0) d_M_clause_236 rfl rfl ?_
                            refine r_getR (b := 0) (r := 4) d_M_clause_237 fl_M_19 (by decide) rfl rfl rfl ?_
                            refine r_aload_n (i := 0) d_M_clause_240 rfl rfl ?_
                            refine r_getI (b := 0) (v := h19.1 0 14) d_M_clause_241 fl_M_103 (by decide) rfl rfl rfl ?_
                            obtain ⟨hi_244, H⟩ := H
                            refine r_iald (b := 4) (v := h19.2.1 4 (h19.1 0 14).toNatClampNeg) d_M_clause_244 (by decide) rfl hi_244 rfl ?_
                            refine r_iast (b := 7) (i := ((90 * (hp.1 0 14)) + (hp.2.1 5 (hp.1 0 14).toNatClampNeg)).toNatClampNeg) d_M_clause_245 (by decide) rfl hi_103 rfl ?_
                            refine r_aload_n (i := 0) d_M_clause_246 rfl rfl ?_
                            refine rc_VV (b := 0) (d' := 36) [] [] d_M_clause_247 ml_M_133 rfl rfl (by decide) (by decide) rfl rfl (Nat.le_of_ble_eq_true rfl) H ?_
                            intro h21 H
                            refine r_aload_n (i := 0) d_M_clause_250 rfl rfl ?_
                            refine r_getR (b := 0) (r := 8) d_M_clause_251 fl_M_31 (by decide) rfl rfl rfl ?_
                            refine r_iload_n (i := 1) d_M_clause_254 rfl rfl ?_
                            refine r_aload_n (i := 0) d_M_clause_255 rfl rfl ?_
                            refine r_getR (b := 0) (r := 4) d_M_clause_256 fl_M_19 (by decide) rfl rfl rfl ?_
                            refine r_aload_n (i := 0) d_M_clause_259 rfl rfl ?_
                            refine r_getI (b := 0) (v := h21.1 0 14) d_M_clause_260 fl_M_103 (by decide) rfl rfl rfl ?_
                            obtain ⟨hi_263, H⟩ := H
                            refine r_iald (b := 4) (v := h21.2.1 4 (h21.1 0 14).toNatClampNeg) d_M_clause_263 (by decide) rfl hi_263 rfl ?_
                            refine r_iast (b := 8) (i := ((90 * (hp.1 0 14)) + (hp.2.1 5 (hp.1 0 14).toNatClampNeg)).toNatClampNeg) d_M_clause_264 (by decide) rfl hi_103 rfl ?_
                            refine r_aload_n (i := 0) d_M_clause_265 rfl rfl ?_
                            refine r_getR (b := 0) (r := 5) d_M_clause_266 fl_M_22 (by decide) rfl rfl rfl ?_
                            refine r_aload_n (i := 0) d_M_clause_269 rfl rfl ?_
                            refine r_getI (b := 0) (v := h21.1 0 14) d_M_clause_270 fl_M_103 (by decide) rfl rfl rfl ?_
                            refine r_dup2 d_M_clause_273 ?_
                            refine r_iald (b := 5) (v := h21.2.1 5 (h21.1 0 14).toNatClampNeg) d_M_clause_274 (by decide) rfl hi_263 rfl ?_
                            refine r_iconst d_M_clause_275 ic_1 ?_
                            refine r_iadd d_M_clause_276 ?_
                            refine r_iast (b := 5) (i := (h21.1 0 14).toNatClampNeg) d_M_clause_277 (by decide) rfl hi_263 rfl ?_
                            exact rV_ret d_M_clause_278 rfl H
                          · replace H := H.2 hc_213
                            refine r_aload_n (i := 0) d_M_clause_216 rfl rfl ?_
                            refine rk_VV (b := 0) (d' := 1) [] [] d_M_clause_217 ml_M_109 rfl rfl (by decide) (by decide) rfl rfl (Nat.le_of_ble_eq_true rfl) (s_M_bad  ?_)
                            exact rV_ret d_M_clause_220 rfl H
                    refine rk_SI (d' := 1) [.int r15] [] d_M_clause_155 ml_M_146 rfl rfl (by decide) (Nat.le_of_ble_eq_true rfl) (s_M_isSign r15 ?_)
                    refine r_if_eq (tgt := 165) d_M_clause_158 (by decide) (fun hc_158 => ?_) (fun hc_158 => ?_)
                    · refine r_iconst d_M_clause_165 ic_0 ?_
                      exact J158 _ (((if_pos hc_158).trans rfl)).symm
                    · refine r_iconst d_M_clause_161 ic_1 ?_
                      refine r_goto (tgt := 166) d_M_clause_162 (by decide) ?_
                      exact J158 _ (((if_neg hc_158).trans rfl)).symm
                · replace H := H.2 hc_129
                  refine r_aload_n (i := 0) d_M_clause_132 rfl rfl ?_
                  refine rc_VV (b := 0) (d' := 67) [] [] d_M_clause_133 ml_M_152 rfl rfl (by decide) (by decide) rfl rfl (Nat.le_of_ble_eq_true rfl) H ?_
                  intro h22 H
                  refine r_goto (tgt := 183) d_M_clause_136 (by decide) ?_
                  refine r_aload_n (i := 0) d_M_clause_183 rfl rfl ?_
                  refine r_getR (b := 0) (r := 7) d_M_clause_184 fl_M_28 (by decide) rfl rfl rfl ?_
                  refine r_iload_n (i := 1) d_M_clause_187 rfl rfl ?_
                  refine r_aload_n (i := 0) d_M_clause_188 rfl rfl ?_
                  refine r_getR (b := 0) (r := 6) d_M_clause_189 fl_M_25 (by decide) rfl rfl rfl ?_
                  refine r_iload_n (i := 1) d_M_clause_192 rfl rfl ?_
                  refine r_iald (b := 6) (v := h22.2.1 6 ((90 * (hp.1 0 14)) + (hp.2.1 5 (hp.1 0 14).toNatClampNeg)).toNatClampNeg) d_M_clause_193 (by decide) rfl hi_103 rfl ?_
                  refine r_iast (b := 7) (i := ((90 * (hp.1 0 14)) + (hp.2.1 5 (hp.1 0 14).toNatClampNeg)).toNatClampNeg) d_M_clause_194 (by decide) rfl hi_103 rfl ?_
                  refine r_iload_n (i := 2) d_M_clause_195 rfl rfl ?_
                  refine r_if_eq (tgt := 250) d_M_clause_196 (by decide) (fun h => absurd h hc_129) (fun _ => ?_)
                  refine r_aload_n (i := 0) d_M_clause_199 rfl rfl ?_
                  refine r_getI (b := 0) (v := h22.1 0 4) d_M_clause_200 fl_M_100 (by decide) rfl rfl rfl ?_
                  refine r_iconst d_M_clause_203 ic_m1 ?_
                  refine r_icmp_ne (tgt := 250) d_M_clause_204 (by decide) (fun hc_204 => ?_) (fun hc_204 => ?_)
                  · replace H := H.2 hc_204
                    refine r_aload_n (i := 0) d_M_clause_250 rfl rfl ?_
                    refine r_getR (b := 0) (r := 8) d_M_clause_251 fl_M_31 (by decide) rfl rfl rfl ?_
                    refine r_iload_n (i := 1) d_M_clause_254 rfl rfl ?_
                    refine r_aload_n (i := 0) d_M_clause_255 rfl rfl ?_
                    refine r_getR (b := 0) (r := 4) d_M_clause_256 fl_M_19 (by decide) rfl rfl rfl ?_
                    refine r_aload_n (i := 0) d_M_clause_259 rfl rfl ?_
                    refine r_getI (b := 0) (v := h22.1 0 14) d_M_clause_260 fl_M_103 (by decide) rfl rfl rfl ?_
                    obtain ⟨hi_263, H⟩ := H
                    refine r_iald (b := 4) (v := h22.2.1 4 (h22.1 0 14).toNatClampNeg) d_M_clause_263 (by decide) rfl hi_263 rfl ?_
                    refine r_iast (b := 8) (i := ((90 * (hp.1 0 14)) + (hp.2.1 5 (hp.1 0 14).toNatClampNeg)).toNatClampNeg) d_M_clause_264 (by decide) rfl hi_103 rfl ?_
                    refine r_aload_n (i := 0) d_M_clause_265 rfl rfl ?_
                    refine r_getR (b := 0) (r := 5) d_M_clause_266 fl_M_22 (by decide) rfl rfl rfl ?_
                    refine r_aload_n (i := 0) d_M_clause_269 rfl rfl ?_
                    refine r_getI (b := 0) (v := h22.1 0 14) d_M_clause_270 fl_M_103 (by decide) rfl rfl rfl ?_
                    refine r_dup2 d_M_clause_273 ?_
                    refine r_iald (b := 5) (v := h22.2.1 5 (h22.1 0 14).toNatClampNeg) d_M_clause_274 (by decide) rfl hi_263 rfl ?_
                    refine r_iconst d_M_clause_275 ic_1 ?_
                    refine r_iadd d_M_clause_276 ?_
                    refine r_iast (b := 5) (i := (h22.1 0 14).toNatClampNeg) d_M_clause_277 (by decide) rfl hi_263 rfl ?_
                    exact rV_ret d_M_clause_278 rfl H
                  · replace H := H.1 hc_204
                    refine r_aload_n (i := 0) d_M_clause_207 rfl rfl ?_
                    refine rc_VI (b := 0) (d' := 2) [] [] d_M_clause_208 ml_M_112 rfl rfl (by decide) (by decide) rfl rfl (Nat.le_of_ble_eq_true rfl) H ?_
                    intro r24 h23 H
                    refine r_bipush d_M_clause_211 bp_63 ?_
                    refine r_icmp_eq (tgt := 221) d_M_clause_213 (by decide) (fun hc_213 => ?_) (fun hc_213 => ?_)
                    · replace H := H.1 hc_213
                      refine r_aload_n (i := 0) d_M_clause_221 rfl rfl ?_
                      refine r_dupr d_M_clause_222 ?_
                      refine r_getI (b := 0) (v := h23.1 0 3) d_M_clause_223 fl_M_93 (by decide) rfl rfl rfl ?_
                      refine r_iconst d_M_clause_226 ic_1 ?_
                      refine r_iadd d_M_clause_227 ?_
                      refine r_putI (b := 0) d_M_clause_228 fp_M_93 ⟨rfl, rfl⟩ (by decide) rfl rfl ?_
                      refine r_aload_n (i := 0) d_M_clause_231 rfl rfl ?_
                      refine r_getR (b := 0) (r := 7) d_M_clause_232 fl_M_28 (by decide) rfl rfl rfl ?_
                      refine r_iload_n (i := 1) d_M_clause_235 rfl rfl ?_
                      refine r_aload_n (i := 0) d_M_clause_236 rfl rfl ?_
                      refine r_getR (b := 0) (r := 4) d_M_clause_237 fl_M_19 (by decide) rfl rfl rfl ?_
                      refine r_aload_n (i := 0) d_M_clause_240 rfl rfl ?_
                      refine r_getI (b := 0) (v := h23.1 0 14) d_M_clause_241 fl_M_103 (by decide) rfl rfl rfl ?_
                      obtain ⟨hi_244, H⟩ := H
                      refine r_iald (b := 4) (v := h23.2.1 4 (h23.1 0 14).toNatClampNeg) d_M_clause_244 (by decide) rfl hi_244 rfl ?_
                      refine r_iast (b := 7) (i := ((90 * (hp.1 0 14)) + (hp.2.1 5 (hp.1 0 14).toNatClampNeg)).toNatClampNeg) d_M_clause_245 (by decide) rfl hi_103 rfl ?_
                      refine r_aload_n (i := 0) d_M_clause_246 rfl rfl ?_
                      refine rc_VV (b := 0) (d' := 36) [] [] d_M_clause_247 ml_M_133 rfl rfl (by decide) (by decide) rfl rfl (Nat.le_of_ble_eq_true rfl) H ?_
                      intro h25 H
                      refine r_aload_n (i := 0) d_M_clause_250 rfl rfl ?_
                      refine r_getR (b := 0) (r := 8) d_M_clause_251 fl_M_31 (by decide) rfl rfl rfl ?_
                      refine r_iload_n (i := 1) d_M_clause_254 rfl rfl ?_
                      refine r_aload_n (i := 0) d_M_clause_255 rfl rfl ?_
                      refine r_getR (b := 0) (r := 4) d_M_clause_256 fl_M_19 (by decide) rfl rfl rfl ?_
                      refine r_aload_n (i := 0) d_M_clause_259 rfl rfl ?_
                      refine r_getI (b := 0) (v := h25.1 0 14) d_M_clause_260 fl_M_103 (by decide) rfl rfl rfl ?_
                      obtain ⟨hi_263, H⟩ := H
                      refine r_iald (b := 4) (v := h25.2.1 4 (h25.1 0 14).toNatClampNeg) d_M_clause_263 (by decide) rfl hi_263 rfl ?_
                      refine r_iast (b := 8) (i := ((90 * (hp.1 0 14)) + (hp.2.1 5 (hp.1 0 14).toNatClampNeg)).toNatClampNeg) d_M_clause_264 (by decide) rfl hi_103 rfl ?_
                      refine r_aload_n (i := 0) d_M_clause_265 rfl rfl ?_
                      refine r_getR (b := 0) (r := 5) d_M_clause_266 fl_M_22 (by decide) rfl rfl rfl ?_
                      refine r_aload_n (i := 0) d_M_clause_269 rfl rfl ?_
                      refine r_getI (b := 0) (v := h25.1 0 14) d_M_clause_270 fl_M_103 (by decide) rfl rfl rfl ?_
                      refine r_dup2 d_M_clause_273 ?_
                      refine r_iald (b := 5) (v := h25.2.1 5 (h25.1 0 14).toNatClampNeg) d_M_clause_274 (by decide) rfl hi_263 rfl ?_
                      refine r_iconst d_M_clause_275 ic_1 ?_
                      refine r_iadd d_M_clause_276 ?_
                      refine r_iast (b := 5) (i := (h25.1 0 14).toNatClampNeg) d_M_clause_277 (by decide) rfl hi_263 rfl ?_
                      exact rV_ret d_M_clause_278 rfl H
                    · replace H := H.2 hc_213
                      refine r_aload_n (i := 0) d_M_clause_216 rfl rfl ?_
                      refine rk_VV (b := 0) (d' := 1) [] [] d_M_clause_217 ml_M_109 rfl rfl (by decide) (by decide) rfl rfl (Nat.le_of_ble_eq_true rfl) (s_M_bad  ?_)
                      exact rV_ret d_M_clause_220 rfl H
              refine r_bipush d_M_clause_117 bp_40 ?_
              refine r_icmp_ne (tgt := 126) d_M_clause_119 (by decide) (fun hc_119 => ?_) (fun hc_119 => ?_)
              · refine r_iconst d_M_clause_126 ic_0 ?_
                exact J119 _ (((if_neg hc_119).trans rfl)).symm
              · refine r_iconst d_M_clause_122 ic_1 ?_
                refine r_goto (tgt := 127) d_M_clause_123 (by decide) ?_
                exact J119 _ (((if_pos hc_119).trans rfl)).symm
          · replace H := H.2 hc_85
            exact rV_ret d_M_clause_88 rfl H
        · replace H := H.2 hc_63
          refine r_aload_n (i := 0) d_M_clause_66 rfl rfl ?_
          refine rk_VV (b := 0) (d' := 1) [] [] d_M_clause_67 ml_M_109 rfl rfl (by decide) (by decide) rfl rfl (Nat.le_of_ble_eq_true rfl) (s_M_bad  ?_)
          refine r_aload_n (i := 0) d_M_clause_70 rfl rfl ?_
          refine r_dupr d_M_clause_71 ?_
          refine r_getI (b := 0) (v := (g_M_bad h3).1 0 3) d_M_clause_72 fl_M_93 (by decide) rfl rfl rfl ?_
          refine r_iconst d_M_clause_75 ic_1 ?_
          refine r_iadd d_M_clause_76 ?_
          refine r_putI (b := 0) d_M_clause_77 fp_M_93 ⟨rfl, rfl⟩ (by decide) rfl rfl ?_
          refine r_aload_n (i := 0) d_M_clause_80 rfl rfl ?_
          refine r_getI (b := 0) (v := (g_M_bad h3).1 0 4) d_M_clause_81 fl_M_100 (by decide) rfl rfl rfl ?_
          refine r_iconst d_M_clause_84 ic_m1 ?_
          refine r_icmp_eq (tgt := 89) d_M_clause_85 (by decide) (fun hc_85 => ?_) (fun hc_85 => ?_)
          · replace H := H.1 hc_85
            refine r_aload_n (i := 0) d_M_clause_89 rfl rfl ?_
            refine r_getR (b := 0) (r := 6) d_M_clause_90 fl_M_25 (by decide) rfl rfl rfl ?_
            refine r_iload_n (i := 1) d_M_clause_93 rfl rfl ?_
            refine r_aload_n (i := 0) d_M_clause_94 rfl rfl ?_
            refine r_getR (b := 0) (r := 4) d_M_clause_95 fl_M_19 (by decide) rfl rfl rfl ?_
            refine r_aload_n (i := 0) d_M_clause_98 rfl rfl ?_
            refine r_getI (b := 0) (v := (g_M_bad h3).1 0 14) d_M_clause_99 fl_M_103 (by decide) rfl rfl rfl ?_
            obtain ⟨hi_102, H⟩ := H
            refine r_iald (b := 4) (v := (g_M_bad h3).2.1 4 ((g_M_bad h3).1 0 14).toNatClampNeg) d_M_clause_102 (by decide) rfl hi_102 rfl ?_
            obtain ⟨hi_103, H⟩ := H
            refine r_iast (b := 6) (i := ((90 * (hp.1 0 14)) + (hp.2.1 5 (hp.1 0 14).toNatClampNeg)).toNatClampNeg) d_M_clause_103 (by decide) rfl hi_103 rfl ?_
            refine r_aload_n (i := 0) d_M_clause_104 rfl rfl ?_
            refine rc_VI (b := 0) (d' := 2) [] [] d_M_clause_105 ml_M_112 rfl rfl (by decide) (by decide) rfl rfl (Nat.le_of_ble_eq_true rfl) H ?_
            intro r27 h26 H
            refine r_bipush d_M_clause_108 bp_33 ?_
            refine r_icmp_eq (tgt := 122) d_M_clause_110 (by decide) (fun hc_110 => ?_) (fun hc_110 => ?_)
            · replace H := H.1 hc_110
              refine r_iconst d_M_clause_122 ic_1 ?_
              refine r_goto (tgt := 127) d_M_clause_123 (by decide) ?_
              refine r_istore_n (i := 2) (lz := [some (.ref 0), some (.int ((90 * (hp.1 0 14)) + (hp.2.1 5 (hp.1 0 14).toNatClampNeg))), some (.int 1)]) d_M_clause_127 rfl (by decide) rfl rfl ?_
              refine r_iload_n (i := 2) d_M_clause_128 rfl rfl ?_
              refine r_if_eq (tgt := 139) d_M_clause_129 (by decide) (fun h => absurd h (by decide)) (fun _ => ?_)
              refine r_aload_n (i := 0) d_M_clause_132 rfl rfl ?_
              refine rc_VV (b := 0) (d' := 67) [] [] d_M_clause_133 ml_M_152 rfl rfl (by decide) (by decide) rfl rfl (Nat.le_of_ble_eq_true rfl) H ?_
              intro h28 H
              refine r_goto (tgt := 183) d_M_clause_136 (by decide) ?_
              refine r_aload_n (i := 0) d_M_clause_183 rfl rfl ?_
              refine r_getR (b := 0) (r := 7) d_M_clause_184 fl_M_28 (by decide) rfl rfl rfl ?_
              refine r_iload_n (i := 1) d_M_clause_187 rfl rfl ?_
              refine r_aload_n (i := 0) d_M_clause_188 rfl rfl ?_
              refine r_getR (b := 0) (r := 6) d_M_clause_189 fl_M_25 (by decide) rfl rfl rfl ?_
              refine r_iload_n (i := 1) d_M_clause_192 rfl rfl ?_
              refine r_iald (b := 6) (v := h28.2.1 6 ((90 * (hp.1 0 14)) + (hp.2.1 5 (hp.1 0 14).toNatClampNeg)).toNatClampNeg) d_M_clause_193 (by decide) rfl hi_103 rfl ?_
              refine r_iast (b := 7) (i := ((90 * (hp.1 0 14)) + (hp.2.1 5 (hp.1 0 14).toNatClampNeg)).toNatClampNeg) d_M_clause_194 (by decide) rfl hi_103 rfl ?_
              refine r_iload_n (i := 2) d_M_clause_195 rfl rfl ?_
              refine r_if_eq (tgt := 250) d_M_clause_196 (by decide) (fun h => absurd h (by decide)) (fun _ => ?_)
              refine r_aload_n (i := 0) d_M_clause_199 rfl rfl ?_
              refine r_getI (b := 0) (v := h28.1 0 4) d_M_clause_200 fl_M_100 (by decide) rfl rfl rfl ?_
              refine r_iconst d_M_clause_203 ic_m1 ?_
              refine r_icmp_ne (tgt := 250) d_M_clause_204 (by decide) (fun hc_204 => ?_) (fun hc_204 => ?_)
              · replace H := H.2 hc_204
                refine r_aload_n (i := 0) d_M_clause_250 rfl rfl ?_
                refine r_getR (b := 0) (r := 8) d_M_clause_251 fl_M_31 (by decide) rfl rfl rfl ?_
                refine r_iload_n (i := 1) d_M_clause_254 rfl rfl ?_
                refine r_aload_n (i := 0) d_M_clause_255 rfl rfl ?_
                refine r_getR (b := 0) (r := 4) d_M_clause_256 fl_M_19 (by decide) rfl rfl rfl ?_
                refine r_aload_n (i := 0) d_M_clause_259 rfl rfl ?_
                refine r_getI (b := 0) (v := h28.1 0 14) d_M_clause_260 fl_M_103 (by decide) rfl rfl rfl ?_
                obtain ⟨hi_263, H⟩ := H
                refine r_iald (b := 4) (v := h28.2.1 4 (h28.1 0 14).toNatClampNeg) d_M_clause_263 (by decide) rfl hi_263 rfl ?_
                refine r_iast (b := 8) (i := ((90 * (hp.1 0 14)) + (hp.2.1 5 (hp.1 0 14).toNatClampNeg)).toNatClampNeg) d_M_clause_264 (by decide) rfl hi_103 rfl ?_
                refine r_aload_n (i := 0) d_M_clause_265 rfl rfl ?_
                refine r_getR (b := 0) (r := 5) d_M_clause_266 fl_M_22 (by decide) rfl rfl rfl ?_
                refine r_aload_n (i := 0) d_M_clause_269 rfl rfl ?_
                refine r_getI (b := 0) (v := h28.1 0 14) d_M_clause_270 fl_M_103 (by decide) rfl rfl rfl ?_
                refine r_dup2 d_M_clause_273 ?_
                refine r_iald (b := 5) (v := h28.2.1 5 (h28.1 0 14).toNatClampNeg) d_M_clause_274 (by decide) rfl hi_263 rfl ?_
                refine r_iconst d_M_clause_275 ic_1 ?_
                refine r_iadd d_M_clause_276 ?_
                refine r_iast (b := 5) (i := (h28.1 0 14).toNatClampNeg) d_M_clause_277 (by decide) rfl hi_263 rfl ?_
                exact rV_ret d_M_clause_278 rfl H
              · replace H := H.1 hc_204
                refine r_aload_n (i := 0) d_M_clause_207 rfl rfl ?_
                refine rc_VI (b := 0) (d' := 2) [] [] d_M_clause_208 ml_M_112 rfl rfl (by decide) (by decide) rfl rfl (Nat.le_of_ble_eq_true rfl) H ?_
                intro r30 h29 H
                refine r_bipush d_M_clause_211 bp_63 ?_
                refine r_icmp_eq (tgt := 221) d_M_clause_213 (by decide) (fun hc_213 => ?_) (fun hc_213 => ?_)
                · replace H := H.1 hc_213
                  refine r_aload_n (i := 0) d_M_clause_221 rfl rfl ?_
                  refine r_dupr d_M_clause_222 ?_
                  refine r_getI (b := 0) (v := h29.1 0 3) d_M_clause_223 fl_M_93 (by decide) rfl rfl rfl ?_
                  refine r_iconst d_M_clause_226 ic_1 ?_
                  refine r_iadd d_M_clause_227 ?_
                  refine r_putI (b := 0) d_M_clause_228 fp_M_93 ⟨rfl, rfl⟩ (by decide) rfl rfl ?_
                  refine r_aload_n (i := 0) d_M_clause_231 rfl rfl ?_
                  refine r_getR (b := 0) (r := 7) d_M_clause_232 fl_M_28 (by decide) rfl rfl rfl ?_
                  refine r_iload_n (i := 1) d_M_clause_235 rfl rfl ?_
                  refine r_aload_n (i := 0) d_M_clause_236 rfl rfl ?_
                  refine r_getR (b := 0) (r := 4) d_M_clause_237 fl_M_19 (by decide) rfl rfl rfl ?_
                  refine r_aload_n (i := 0) d_M_clause_240 rfl rfl ?_
                  refine r_getI (b := 0) (v := h29.1 0 14) d_M_clause_241 fl_M_103 (by decide) rfl rfl rfl ?_
                  obtain ⟨hi_244, H⟩ := H
                  refine r_iald (b := 4) (v := h29.2.1 4 (h29.1 0 14).toNatClampNeg) d_M_clause_244 (by decide) rfl hi_244 rfl ?_
                  refine r_iast (b := 7) (i := ((90 * (hp.1 0 14)) + (hp.2.1 5 (hp.1 0 14).toNatClampNeg)).toNatClampNeg) d_M_clause_245 (by decide) rfl hi_103 rfl ?_
                  refine r_aload_n (i := 0) d_M_clause_246 rfl rfl ?_
                  refine rc_VV (b := 0) (d' := 36) [] [] d_M_clause_247 ml_M_133 rfl rfl (by decide) (by decide) rfl rfl (Nat.le_of_ble_eq_true rfl) H ?_
                  intro h31 H
                  refine r_aload_n (i := 0) d_M_clause_250 rfl rfl ?_
                  refine r_getR (b := 0) (r := 8) d_M_clause_251 fl_M_31 (by decide) rfl rfl rfl ?_
                  refine r_iload_n (i := 1) d_M_clause_254 rfl rfl ?_
                  refine r_aload_n (i := 0) d_M_clause_255 rfl rfl ?_
                  refine r_getR (b := 0) (r := 4) d_M_clause_256 fl_M_19 (by decide) rfl rfl rfl ?_
                  refine r_aload_n (i := 0) d_M_clause_259 rfl rfl ?_
                  refine r_getI (b := 0) (v := h31.1 0 14) d_M_clause_260 fl_M_103 (by decide) rfl rfl rfl ?_
                  obtain ⟨hi_263, H⟩ := H
                  refine r_iald (b := 4) (v := h31.2.1 4 (h31.1 0 14).toNatClampNeg) d_M_clause_263 (by decide) rfl hi_263 rfl ?_
                  refine r_iast (b := 8) (i := ((90 * (hp.1 0 14)) + (hp.2.1 5 (hp.1 0 14).toNatClampNeg)).toNatClampNeg) d_M_clause_264 (by decide) rfl hi_103 rfl ?_
                  refine r_aload_n (i := 0) d_M_clause_265 rfl rfl ?_
                  refine r_getR (b := 0) (r := 5) d_M_clause_266 fl_M_22 (by decide) rfl rfl rfl ?_
                  refine r_aload_n (i := 0) d_M_clause_269 rfl rfl ?_
                  refine r_getI (b := 0) (v := h31.1 0 14) d_M_clause_270 fl_M_103 (by decide) rfl rfl rfl ?_
                  refine r_dup2 d_M_clause_273 ?_
                  refine r_iald (b := 5) (v := h31.2.1 5 (h31.1 0 14).toNatClampNeg) d_M_clause_274 (by decide) rfl hi_263 rfl ?_
                  refine r_iconst d_M_clause_275 ic_1 ?_
                  refine r_iadd d_M_clause_276 ?_
                  refine r_iast (b := 5) (i := (h31.1 0 14).toNatClampNeg) d_M_clause_277 (by decide) rfl hi_263 rfl ?_
                  exact rV_ret d_M_clause_278 rfl H
                · replace H := H.2 hc_213
                  refine r_aload_n (i := 0) d_M_clause_216 rfl rfl ?_
                  refine rk_VV (b := 0) (d' := 1) [] [] d_M_clause_217 ml_M_109 rfl rfl (by decide) (by decide) rfl rfl (Nat.le_of_ble_eq_true rfl) (s_M_bad  ?_)
                  exact rV_ret d_M_clause_220 rfl H
            · replace H := H.2 hc_110
              refine r_aload_n (i := 0) d_M_clause_113 rfl rfl ?_
              refine rc_VI (b := 0) (d' := 2) [] [] d_M_clause_114 ml_M_112 rfl rfl (by decide) (by decide) rfl rfl (Nat.le_of_ble_eq_true rfl) H ?_
              intro r33 h32 H
              have J119 : ∀ (v119_0 : Int32), v119_0 = ((if r33 = 40 then 1 else 0) : Int32) → Rn wM G 75 q_M_clause 127 [some (.ref 0), some (.int ((90 * (hp.1 0 14)) + (hp.2.1 5 (hp.1 0 14).toNatClampNeg))), none] [.int v119_0] h32 (rV F) := by
                rintro _ rfl
                refine r_istore_n (i := 2) (lz := [some (.ref 0), some (.int ((90 * (hp.1 0 14)) + (hp.2.1 5 (hp.1 0 14).toNatClampNeg))), some (.int ((if r33 = 40 then 1 else 0) : Int32))]) d_M_clause_127 rfl (by decide) rfl rfl ?_
                refine r_iload_n (i := 2) d_M_clause_128 rfl rfl ?_
                refine r_if_eq (tgt := 139) d_M_clause_129 (by decide) (fun hc_129 => ?_) (fun hc_129 => ?_)
                · replace H := H.1 hc_129
                  refine r_aload_n (i := 0) d_M_clause_139 rfl rfl ?_
                  refine rc_VV (b := 0) (d' := 36) [] [] d_M_clause_140 ml_M_133 rfl rfl (by decide) (by decide) rfl rfl (Nat.le_of_ble_eq_true rfl) H ?_
                  intro h34 H
                  refine r_aload_n (i := 0) d_M_clause_143 rfl rfl ?_
                  refine r_getI (b := 0) (v := h34.1 0 4) d_M_clause_144 fl_M_100 (by decide) rfl rfl rfl ?_
                  refine r_iconst d_M_clause_147 ic_m1 ?_
                  refine r_icmp_ne (tgt := 165) d_M_clause_148 (by decide) (fun hc_148 => ?_) (fun hc_148 => ?_)
                  · replace H := H.2 hc_148
                    refine r_iconst d_M_clause_165 ic_0 ?_
                    refine r_istore_n (i := 2) (lz := [some (.ref 0), some (.int ((90 * (hp.1 0 14)) + (hp.2.1 5 (hp.1 0 14).toNatClampNeg))), some (.int 0)]) d_M_clause_166 rfl (by decide) rfl rfl ?_
                    refine r_iload_n (i := 2) d_M_clause_167 rfl rfl ?_
                    refine r_if_eq (tgt := 183) d_M_clause_168 (by decide) (fun _ => ?_) (fun h => absurd (by decide) h)
                    refine r_aload_n (i := 0) d_M_clause_183 rfl rfl ?_
                    refine r_getR (b := 0) (r := 7) d_M_clause_184 fl_M_28 (by decide) rfl rfl rfl ?_
                    refine r_iload_n (i := 1) d_M_clause_187 rfl rfl ?_
                    refine r_aload_n (i := 0) d_M_clause_188 rfl rfl ?_
                    refine r_getR (b := 0) (r := 6) d_M_clause_189 fl_M_25 (by decide) rfl rfl rfl ?_
                    refine r_iload_n (i := 1) d_M_clause_192 rfl rfl ?_
                    refine r_iald (b := 6) (v := h34.2.1 6 ((90 * (hp.1 0 14)) + (hp.2.1 5 (hp.1 0 14).toNatClampNeg)).toNatClampNeg) d_M_clause_193 (by decide) rfl hi_103 rfl ?_
                    refine r_iast (b := 7) (i := ((90 * (hp.1 0 14)) + (hp.2.1 5 (hp.1 0 14).toNatClampNeg)).toNatClampNeg) d_M_clause_194 (by decide) rfl hi_103 rfl ?_
                    refine r_iload_n (i := 2) d_M_clause_195 rfl rfl ?_
                    refine r_if_eq (tgt := 250) d_M_clause_196 (by decide) (fun _ => ?_) (fun h => absurd (by decide) h)
                    refine r_aload_n (i := 0) d_M_clause_250 rfl rfl ?_
                    refine r_getR (b := 0) (r := 8) d_M_clause_251 fl_M_31 (by decide) rfl rfl rfl ?_
                    refine r_iload_n (i := 1) d_M_clause_254 rfl rfl ?_
                    refine r_aload_n (i := 0) d_M_clause_255 rfl rfl ?_
                    refine r_getR (b := 0) (r := 4) d_M_clause_256 fl_M_19 (by decide) rfl rfl rfl ?_
                    refine r_aload_n (i := 0) d_M_clause_259 rfl rfl ?_
                    refine r_getI (b := 0) (v := h34.1 0 14) d_M_clause_260 fl_M_103 (by decide) rfl rfl rfl ?_
                    obtain ⟨hi_263, H⟩ := H
                    refine r_iald (b := 4) (v := h34.2.1 4 (h34.1 0 14).toNatClampNeg) d_M_clause_263 (by decide) rfl hi_263 rfl ?_
                    refine r_iast (b := 8) (i := ((90 * (hp.1 0 14)) + (hp.2.1 5 (hp.1 0 14).toNatClampNeg)).toNatClampNeg) d_M_clause_264 (by decide) rfl hi_103 rfl ?_
                    refine r_aload_n (i := 0) d_M_clause_265 rfl rfl ?_
                    refine r_getR (b := 0) (r := 5) d_M_clause_266 fl_M_22 (by decide) rfl rfl rfl ?_
                    refine r_aload_n (i := 0) d_M_clause_269 rfl rfl ?_
                    refine r_getI (b := 0) (v := h34.1 0 14) d_M_clause_270 fl_M_103 (by decide) rfl rfl rfl ?_
                    refine r_dup2 d_M_clause_273 ?_
                    refine r_iald (b := 5) (v := h34.2.1 5 (h34.1 0 14).toNatClampNeg) d_M_clause_274 (by decide) rfl hi_263 rfl ?_
                    refine r_iconst d_M_clause_275 ic_1 ?_
                    refine r_iadd d_M_clause_276 ?_
                    refine r_iast (b := 5) (i := (h34.1 0 14).toNatClampNeg) d_M_clause_277 (by decide) rfl hi_263 rfl ?_
                    exact rV_ret d_M_clause_278 rfl H
                  · replace H := H.1 hc_148
                    refine r_aload_n (i := 0) d_M_clause_151 rfl rfl ?_
                    refine rc_VI (b := 0) (d' := 2) [] [] d_M_clause_152 ml_M_112 rfl rfl (by decide) (by decide) rfl rfl (Nat.le_of_ble_eq_true rfl) H ?_
                    intro r36 h35 H
                    have J158 : ∀ (v158_0 : Int32), v158_0 = ((if (f_M_isSign r36) = 0 then 0 else 1) : Int32) → Rn wM G 75 q_M_clause 166 [some (.ref 0), some (.int ((90 * (hp.1 0 14)) + (hp.2.1 5 (hp.1 0 14).toNatClampNeg))), some (.int ((if r33 = 40 then 1 else 0) : Int32))] [.int v158_0] h35 (rV F) := by
                      rintro _ rfl
                      refine r_istore_n (i := 2) (lz := [some (.ref 0), some (.int ((90 * (hp.1 0 14)) + (hp.2.1 5 (hp.1 0 14).toNatClampNeg))), some (.int ((if (f_M_isSign r36) = 0 then 0 else 1) : Int32))]) d_M_clause_166 rfl (by decide) rfl rfl ?_
                      refine r_iload_n (i := 2) d_M_clause_167 rfl rfl ?_
                      refine r_if_eq (tgt := 183) d_M_clause_168 (by decide) (fun hc_168 => ?_) (fun hc_168 => ?_)
                      · replace H := H.1 hc_168
                        refine r_aload_n (i := 0) d_M_clause_183 rfl rfl ?_
                        refine r_getR (b := 0) (r := 7) d_M_clause_184 fl_M_28 (by decide) rfl rfl rfl ?_
                        refine r_iload_n (i := 1) d_M_clause_187 rfl rfl ?_
                        refine r_aload_n (i := 0) d_M_clause_188 rfl rfl ?_
                        refine r_getR (b := 0) (r := 6) d_M_clause_189 fl_M_25 (by decide) rfl rfl rfl ?_
                        refine r_iload_n (i := 1) d_M_clause_192 rfl rfl ?_
                        refine r_iald (b := 6) (v := h35.2.1 6 ((90 * (hp.1 0 14)) + (hp.2.1 5 (hp.1 0 14).toNatClampNeg)).toNatClampNeg) d_M_clause_193 (by decide) rfl hi_103 rfl ?_
                        refine r_iast (b := 7) (i := ((90 * (hp.1 0 14)) + (hp.2.1 5 (hp.1 0 14).toNatClampNeg)).toNatClampNeg) d_M_clause_194 (by decide) rfl hi_103 rfl ?_
                        refine r_iload_n (i := 2) d_M_clause_195 rfl rfl ?_
                        refine r_if_eq (tgt := 250) d_M_clause_196 (by decide) (fun _ => ?_) (fun h => absurd hc_168 h)
                        refine r_aload_n (i := 0) d_M_clause_250 rfl rfl ?_
                        refine r_getR (b := 0) (r := 8) d_M_clause_251 fl_M_31 (by decide) rfl rfl rfl ?_
                        refine r_iload_n (i := 1) d_M_clause_254 rfl rfl ?_
                        refine r_aload_n (i := 0) d_M_clause_255 rfl rfl ?_
                        refine r_getR (b := 0) (r := 4) d_M_clause_256 fl_M_19 (by decide) rfl rfl rfl ?_
                        refine r_aload_n (i := 0) d_M_clause_259 rfl rfl ?_
                        refine r_getI (b := 0) (v := h35.1 0 14) d_M_clause_260 fl_M_103 (by decide) rfl rfl rfl ?_
                        obtain ⟨hi_263, H⟩ := H
                        refine r_iald (b := 4) (v := h35.2.1 4 (h35.1 0 14).toNatClampNeg) d_M_clause_263 (by decide) rfl hi_263 rfl ?_
                        refine r_iast (b := 8) (i := ((90 * (hp.1 0 14)) + (hp.2.1 5 (hp.1 0 14).toNatClampNeg)).toNatClampNeg) d_M_clause_264 (by decide) rfl hi_103 rfl ?_
                        refine r_aload_n (i := 0) d_M_clause_265 rfl rfl ?_
                        refine r_getR (b := 0) (r := 5) d_M_clause_266 fl_M_22 (by decide) rfl rfl rfl ?_
                        refine r_aload_n (i := 0) d_M_clause_269 rfl rfl ?_
                        refine r_getI (b := 0) (v := h35.1 0 14) d_M_clause_270 fl_M_103 (by decide) rfl rfl rfl ?_
                        refine r_dup2 d_M_clause_273 ?_
                        refine r_iald (b := 5) (v := h35.2.1 5 (h35.1 0 14).toNatClampNeg) d_M_clause_274 (by decide) rfl hi_263 rfl ?_
                        refine r_iconst d_M_clause_275 ic_1 ?_
                        refine r_iadd d_M_clause_276 ?_
                        refine r_iast (b := 5) (i := (h35.1 0 14).toNatClampNeg) d_M_clause_277 (by decide) rfl hi_263 rfl ?_
                        exact rV_ret d_M_clause_278 rfl H
                      · replace H := H.2 hc_168
                        refine r_aload_n (i := 0) d_M_clause_171 rfl rfl ?_
                        refine rc_VV (b := 0) (d' := 37) [] [] d_M_clause_172 ml_M_155 rfl rfl (by decide) (by decide) rfl rfl (Nat.le_of_ble_eq_true rfl) H ?_
                        intro h37 H
                        refine r_aload_n (i := 0) d_M_clause_175 rfl rfl ?_
                        refine rc_VV (b := 0) (d' := 65) [] [] d_M_clause_176 ml_M_158 rfl rfl (by decide) (by decide) rfl rfl (Nat.le_of_ble_eq_true rfl) H ?_
                        intro h38 H
                        refine r_aload_n (i := 0) d_M_clause_179 rfl rfl ?_
                        refine rc_VV (b := 0) (d' := 66) [] [] d_M_clause_180 ml_M_161 rfl rfl (by decide) (by decide) rfl rfl (Nat.le_of_ble_eq_true rfl) H ?_
                        intro h39 H
                        refine r_aload_n (i := 0) d_M_clause_183 rfl rfl ?_
                        refine r_getR (b := 0) (r := 7) d_M_clause_184 fl_M_28 (by decide) rfl rfl rfl ?_
                        refine r_iload_n (i := 1) d_M_clause_187 rfl rfl ?_
                        refine r_aload_n (i := 0) d_M_clause_188 rfl rfl ?_
                        refine r_getR (b := 0) (r := 6) d_M_clause_189 fl_M_25 (by decide) rfl rfl rfl ?_
                        refine r_iload_n (i := 1) d_M_clause_192 rfl rfl ?_
                        refine r_iald (b := 6) (v := h39.2.1 6 ((90 * (hp.1 0 14)) + (hp.2.1 5 (hp.1 0 14).toNatClampNeg)).toNatClampNeg) d_M_clause_193 (by decide) rfl hi_103 rfl ?_
                        refine r_iast (b := 7) (i := ((90 * (hp.1 0 14)) + (hp.2.1 5 (hp.1 0 14).toNatClampNeg)).toNatClampNeg) d_M_clause_194 (by decide) rfl hi_103 rfl ?_
                        refine r_iload_n (i := 2) d_M_clause_195 rfl rfl ?_
                        refine r_if_eq (tgt := 250) d_M_clause_196 (by decide) (fun h => absurd h hc_168) (fun _ => ?_)
                        refine r_aload_n (i := 0) d_M_clause_199 rfl rfl ?_
                        refine r_getI (b := 0) (v := h39.1 0 4) d_M_clause_200 fl_M_100 (by decide) rfl rfl rfl ?_
                        refine r_iconst d_M_clause_203 ic_m1 ?_
                        refine r_icmp_ne (tgt := 250) d_M_clause_204 (by decide) (fun hc_204 => ?_) (fun hc_204 => ?_)
                        · replace H := H.2 hc_204
                          refine r_aload_n (i := 0) d_M_clause_250 rfl rfl ?_
                          refine r_getR (b := 0) (r := 8) d_M_clause_251 fl_M_31 (by decide) rfl rfl rfl ?_
                          refine r_iload_n (i := 1) d_M_clause_254 rfl rfl ?_
                          refine r_aload_n (i := 0) d_M_clause_255 rfl rfl ?_
                          refine r_getR (b := 0) (r := 4) d_M_clause_256 fl_M_19 (by decide) rfl rfl rfl ?_
                          refine r_aload_n (i := 0) d_M_clause_259 rfl rfl ?_
                          refine r_getI (b := 0) (v := h39.1 0 14) d_M_clause_260 fl_M_103 (by decide) rfl rfl rfl ?_
                          obtain ⟨hi_263, H⟩ := H
                          refine r_iald (b := 4) (v := h39.2.1 4 (h39.1 0 14).toNatClampNeg) d_M_clause_263 (by decide) rfl hi_263 rfl ?_
                          refine r_iast (b := 8) (i := ((90 * (hp.1 0 14)) + (hp.2.1 5 (hp.1 0 14).toNatClampNeg)).toNatClampNeg) d_M_clause_264 (by decide) rfl hi_103 rfl ?_
                          refine r_aload_n (i := 0) d_M_clause_265 rfl rfl ?_
                          refine r_getR (b := 0) (r := 5) d_M_clause_266 fl_M_22 (by decide) rfl rfl rfl ?_
                          refine r_aload_n (i := 0) d_M_clause_269 rfl rfl ?_
                          refine r_getI (b := 0) (v := h39.1 0 14) d_M_clause_270 fl_M_103 (by decide) rfl rfl rfl ?_
                          refine r_dup2 d_M_clause_273 ?_
                          refine r_iald (b := 5) (v := h39.2.1 5 (h39.1 0 14).toNatClampNeg) d_M_clause_274 (by decide) rfl hi_263 rfl ?_
                          refine r_iconst d_M_clause_275 ic_1 ?_
                          refine r_iadd d_M_clause_276 ?_
                          refine r_iast (b := 5) (i := (h39.1 0 14).toNatClampNeg) d_M_clause_277 (by decide) rfl hi_263 rfl ?_
                          exact rV_ret d_M_clause_278 rfl H
                        · replace H := H.1 hc_204
                          refine r_aload_n (i := 0) d_M_clause_207 rfl rfl ?_
                          refine rc_VI (b := 0) (d' := 2) [] [] d_M_clause_208 ml_M_112 rfl rfl (by decide) (by decide) rfl rfl (Nat.le_of_ble_eq_true rfl) H ?_
                          intro r41 h40 H
                          refine r_bipush d_M_clause_211 bp_63 ?_
                          refine r_icmp_eq (tgt := 221) d_M_clause_213 (by decide) (fun hc_213 => ?_) (fun hc_213 => ?_)
                          · replace H := H.1 hc_213
                            refine r_aload_n (i := 0) d_M_clause_221 rfl rfl ?_
                            refine r_dupr d_M_clause_222 ?_
                            refine r_getI (b := 0) (v := h40.1 0 3) d_M_clause_223 fl_M_93 (by decide) rfl rfl rfl ?_
                            refine r_iconst d_M_clause_226 ic_1 ?_
                            refine r_iadd d_M_clause_227 ?_
                            refine r_putI (b := 0) d_M_clause_228 fp_M_93 ⟨rfl, rfl⟩ (by decide) rfl rfl ?_
                            refine r_aload_n (i := 0) d_M_clause_231 rfl rfl ?_
                            refine r_getR (b := 0) (r := 7) d_M_clause_232 fl_M_28 (by decide) rfl rfl rfl ?_
                            refine r_iload_n (i := 1) d_M_clause_235 rfl rfl ?_
                            refine r_aload_n (i := 0) d_M_clause_236 rfl rfl ?_
                            refine r_getR (b := 0) (r := 4) d_M_clause_237 fl_M_19 (by decide) rfl rfl rfl ?_
                            refine r_aload_n (i := 0) d_M_clause_240 rfl rfl ?_
                            refine r_getI (b := 0) (v := h40.1 0 14) d_M_clause_241 fl_M_103 (by decide) rfl rfl rfl ?_
                            obtain ⟨hi_244, H⟩ := H
                            refine r_iald (b := 4) (v := h40.2.1 4 (h40.1 0 14).toNatClampNeg) d_M_clause_244 (by decide) rfl hi_244 rfl ?_
                            refine r_iast (b := 7) (i := ((90 * (hp.1 0 14)) + (hp.2.1 5 (hp.1 0 14).toNatClampNeg)).toNatClampNeg) d_M_clause_245 (by decide) rfl hi_103 rfl ?_
                            refine r_aload_n (i := 0) d_M_clause_246 rfl rfl ?_
                            refine rc_VV (b := 0) (d' := 36) [] [] d_M_clause_247 ml_M_133 rfl rfl (by decide) (by decide) rfl rfl (Nat.le_of_ble_eq_true rfl) H ?_
                            intro h42 H
                            refine r_aload_n (i := 0) d_M_clause_250 rfl rfl ?_
                            refine r_getR (b := 0) (r := 8) d_M_clause_251 fl_M_31 (by decide) rfl rfl rfl ?_
                            refine r_iload_n (i := 1) d_M_clause_254 rfl rfl ?_
                            refine r_aload_n (i := 0) d_M_clause_255 rfl rfl ?_
                            refine r_getR (b := 0) (r := 4) d_M_clause_256 fl_M_19 (by decide) rfl rfl rfl ?_
                            refine r_aload_n (i := 0) d_M_clause_259 rfl rfl ?_
                            refine r_getI (b := 0) (v := h42.1 0 14) d_M_clause_260 fl_M_103 (by decide) rfl rfl rfl ?_
                            obtain ⟨hi_263, H⟩ := H
                            refine r_iald (b := 4) (v := h42.2.1 4 (h42.1 0 14).toNatClampNeg) d_M_clause_263 (by decide) rfl hi_263 rfl ?_
                            refine r_iast (b := 8) (i := ((90 * (hp.1 0 14)) + (hp.2.1 5 (hp.1 0 14).toNatClampNeg)).toNatClampNeg) d_M_clause_264 (by decide) rfl hi_103 rfl ?_
                            refine r_aload_n (i := 0) d_M_clause_265 rfl rfl ?_
                            refine r_getR (b := 0) (r := 5) d_M_clause_266 fl_M_22 (by decide) rfl rfl rfl ?_
                            refine r_aload_n (i := 0) d_M_clause_269 rfl rfl ?_
                            refine r_getI (b := 0) (v := h42.1 0 14) d_M_clause_270 fl_M_103 (by decide) rfl rfl rfl ?_
                            refine r_dup2 d_M_clause_273 ?_
                            refine r_iald (b := 5) (v := h42.2.1 5 (h42.1 0 14).toNatClampNeg) d_M_clause_274 (by decide) rfl hi_263 rfl ?_
                            refine r_iconst d_M_clause_275 ic_1 ?_
                            refine r_iadd d_M_clause_276 ?_
                            refine r_iast (b := 5) (i := (h42.1 0 14).toNatClampNeg) d_M_clause_277 (by decide) rfl hi_263 rfl ?_
                            exact rV_ret d_M_clause_278 rfl H
                          · replace H := H.2 hc_213
                            refine r_aload_n (i := 0) d_M_clause_216 rfl rfl ?_
                            refine rk_VV (b := 0) (d' := 1) [] [] d_M_clause_217 ml_M_109 rfl rfl (by decide) (by decide) rfl rfl (Nat.le_of_ble_eq_true rfl) (s_M_bad  ?_)
                            exact rV_ret d_M_clause_220 rfl H
                    refine rk_SI (d' := 1) [.int r36] [] d_M_clause_155 ml_M_146 rfl rfl (by decide) (Nat.le_of_ble_eq_true rfl) (s_M_isSign r36 ?_)
                    refine r_if_eq (tgt := 165) d_M_clause_158 (by decide) (fun hc_158 => ?_) (fun hc_158 => ?_)
                    · refine r_iconst d_M_clause_165 ic_0 ?_
                      exact J158 _ (((if_pos hc_158).trans rfl)).symm
                    · refine r_iconst d_M_clause_161 ic_1 ?_
                      refine r_goto (tgt := 166) d_M_clause_162 (by decide) ?_
                      exact J158 _ (((if_neg hc_158).trans rfl)).symm
                · replace H := H.2 hc_129
                  refine r_aload_n (i := 0) d_M_clause_132 rfl rfl ?_
                  refine rc_VV (b := 0) (d' := 67) [] [] d_M_clause_133 ml_M_152 rfl rfl (by decide) (by decide) rfl rfl (Nat.le_of_ble_eq_true rfl) H ?_
                  intro h43 H
                  refine r_goto (tgt := 183) d_M_clause_136 (by decide) ?_
                  refine r_aload_n (i := 0) d_M_clause_183 rfl rfl ?_
                  refine r_getR (b := 0) (r := 7) d_M_clause_184 fl_M_28 (by decide) rfl rfl rfl ?_
                  refine r_iload_n (i := 1) d_M_clause_187 rfl rfl ?_
                  refine r_aload_n (i := 0) d_M_clause_188 rfl rfl ?_
                  refine r_getR (b := 0) (r := 6) d_M_clause_189 fl_M_25 (by decide) rfl rfl rfl ?_
                  refine r_iload_n (i := 1) d_M_clause_192 rfl rfl ?_
                  refine r_iald (b := 6) (v := h43.2.1 6 ((90 * (hp.1 0 14)) + (hp.2.1 5 (hp.1 0 14).toNatClampNeg)).toNatClampNeg) d_M_clause_193 (by decide) rfl hi_103 rfl ?_
                  refine r_iast (b := 7) (i := ((90 * (hp.1 0 14)) + (hp.2.1 5 (hp.1 0 14).toNatClampNeg)).toNatClampNeg) d_M_clause_194 (by decide) rfl hi_103 rfl ?_
                  refine r_iload_n (i := 2) d_M_clause_195 rfl rfl ?_
                  refine r_if_eq (tgt := 250) d_M_clause_196 (by decide) (fun h => absurd h hc_129) (fun _ => ?_)
                  refine r_aload_n (i := 0) d_M_clause_199 rfl rfl ?_
                  refine r_getI (b := 0) (v := h43.1 0 4) d_M_clause_200 fl_M_100 (by decide) rfl rfl rfl ?_
                  refine r_iconst d_M_clause_203 ic_m1 ?_
                  refine r_icmp_ne (tgt := 250) d_M_clause_204 (by decide) (fun hc_204 => ?_) (fun hc_204 => ?_)
                  · replace H := H.2 hc_204
                    refine r_aload_n (i := 0) d_M_clause_250 rfl rfl ?_
                    refine r_getR (b := 0) (r := 8) d_M_clause_251 fl_M_31 (by decide) rfl rfl rfl ?_
                    refine r_iload_n (i := 1) d_M_clause_254 rfl rfl ?_
                    refine r_aload_n (i := 0) d_M_clause_255 rfl rfl ?_
                    refine r_getR (b := 0) (r := 4) d_M_clause_256 fl_M_19 (by decide) rfl rfl rfl ?_
                    refine r_aload_n (i := 0) d_M_clause_259 rfl rfl ?_
                    refine r_getI (b := 0) (v := h43.1 0 14) d_M_clause_260 fl_M_103 (by decide) rfl rfl rfl ?_
                    obtain ⟨hi_263, H⟩ := H
                    refine r_iald (b := 4) (v := h43.2.1 4 (h43.1 0 14).toNatClampNeg) d_M_clause_263 (by decide) rfl hi_263 rfl ?_
                    refine r_iast (b := 8) (i := ((90 * (hp.1 0 14)) + (hp.2.1 5 (hp.1 0 14).toNatClampNeg)).toNatClampNeg) d_M_clause_264 (by decide) rfl hi_103 rfl ?_
                    refine r_aload_n (i := 0) d_M_clause_265 rfl rfl ?_
                    refine r_getR (b := 0) (r := 5) d_M_clause_266 fl_M_22 (by decide) rfl rfl rfl ?_
                    refine r_aload_n (i := 0) d_M_clause_269 rfl rfl ?_
                    refine r_getI (b := 0) (v := h43.1 0 14) d_M_clause_270 fl_M_103 (by decide) rfl rfl rfl ?_
                    refine r_dup2 d_M_clause_273 ?_
                    refine r_iald (b := 5) (v := h43.2.1 5 (h43.1 0 14).toNatClampNeg) d_M_clause_274 (by decide) rfl hi_263 rfl ?_
                    refine r_iconst d_M_clause_275 ic_1 ?_
                    refine r_iadd d_M_clause_276 ?_
                    refine r_iast (b := 5) (i := (h43.1 0 14).toNatClampNeg) d_M_clause_277 (by decide) rfl hi_263 rfl ?_
                    exact rV_ret d_M_clause_278 rfl H
                  · replace H := H.1 hc_204
                    refine r_aload_n (i := 0) d_M_clause_207 rfl rfl ?_
                    refine rc_VI (b := 0) (d' := 2) [] [] d_M_clause_208 ml_M_112 rfl rfl (by decide) (by decide) rfl rfl (Nat.le_of_ble_eq_true rfl) H ?_
                    intro r45 h44 H
                    refine r_bipush d_M_clause_211 bp_63 ?_
                    refine r_icmp_eq (tgt := 221) d_M_clause_213 (by decide) (fun hc_213 => ?_) (fun hc_213 => ?_)
                    · replace H := H.1 hc_213
                      refine r_aload_n (i := 0) d_M_clause_221 rfl rfl ?_
                      refine r_dupr d_M_clause_222 ?_
                      refine r_getI (b := 0) (v := h44.1 0 3) d_M_clause_223 fl_M_93 (by decide) rfl rfl rfl ?_
                      refine r_iconst d_M_clause_226 ic_1 ?_
                      refine r_iadd d_M_clause_227 ?_
                      refine r_putI (b := 0) d_M_clause_228 fp_M_93 ⟨rfl, rfl⟩ (by decide) rfl rfl ?_
                      refine r_aload_n (i := 0) d_M_clause_231 rfl rfl ?_
                      refine r_getR (b := 0) (r := 7) d_M_clause_232 fl_M_28 (by decide) rfl rfl rfl ?_
                      refine r_iload_n (i := 1) d_M_clause_235 rfl rfl ?_
                      refine r_aload_n (i := 0) d_M_clause_236 rfl rfl ?_
                      refine r_getR (b := 0) (r := 4) d_M_clause_237 fl_M_19 (by decide) rfl rfl rfl ?_
                      refine r_aload_n (i := 0) d_M_clause_240 rfl rfl ?_
                      refine r_getI (b := 0) (v := h44.1 0 14) d_M_clause_241 fl_M_103 (by decide) rfl rfl rfl ?_
                      obtain ⟨hi_244, H⟩ := H
                      refine r_iald (b := 4) (v := h44.2.1 4 (h44.1 0 14).toNatClampNeg) d_M_clause_244 (by decide) rfl hi_244 rfl ?_
                      refine r_iast (b := 7) (i := ((90 * (hp.1 0 14)) + (hp.2.1 5 (hp.1 0 14).toNatClampNeg)).toNatClampNeg) d_M_clause_245 (by decide) rfl hi_103 rfl ?_
                      refine r_aload_n (i := 0) d_M_clause_246 rfl rfl ?_
                      refine rc_VV (b := 0) (d' := 36) [] [] d_M_clause_247 ml_M_133 rfl rfl (by decide) (by decide) rfl rfl (Nat.le_of_ble_eq_true rfl) H ?_
                      intro h46 H
                      refine r_aload_n (i := 0) d_M_clause_250 rfl rfl ?_
                      refine r_getR (b := 0) (r := 8) d_M_clause_251 fl_M_31 (by decide) rfl rfl rfl ?_
                      refine r_iload_n (i := 1) d_M_clause_254 rfl rfl ?_
                      refine r_aload_n (i := 0) d_M_clause_255 rfl rfl ?_
                      refine r_getR (b := 0) (r := 4) d_M_clause_256 fl_M_19 (by decide) rfl rfl rfl ?_
                      refine r_aload_n (i := 0) d_M_clause_259 rfl rfl ?_
                      refine r_getI (b := 0) (v := h46.1 0 14) d_M_clause_260 fl_M_103 (by decide) rfl rfl rfl ?_
                      obtain ⟨hi_263, H⟩ := H
                      refine r_iald (b := 4) (v := h46.2.1 4 (h46.1 0 14).toNatClampNeg) d_M_clause_263 (by decide) rfl hi_263 rfl ?_
                      refine r_iast (b := 8) (i := ((90 * (hp.1 0 14)) + (hp.2.1 5 (hp.1 0 14).toNatClampNeg)).toNatClampNeg) d_M_clause_264 (by decide) rfl hi_103 rfl ?_
                      refine r_aload_n (i := 0) d_M_clause_265 rfl rfl ?_
                      refine r_getR (b := 0) (r := 5) d_M_clause_266 fl_M_22 (by decide) rfl rfl rfl ?_
                      refine r_aload_n (i := 0) d_M_clause_269 rfl rfl ?_
                      refine r_getI (b := 0) (v := h46.1 0 14) d_M_clause_270 fl_M_103 (by decide) rfl rfl rfl ?_
                      refine r_dup2 d_M_clause_273 ?_
                      refine r_iald (b := 5) (v := h46.2.1 5 (h46.1 0 14).toNatClampNeg) d_M_clause_274 (by decide) rfl hi_263 rfl ?_
                      refine r_iconst d_M_clause_275 ic_1 ?_
                      refine r_iadd d_M_clause_276 ?_
                      refine r_iast (b := 5) (i := (h46.1 0 14).toNatClampNeg) d_M_clause_277 (by decide) rfl hi_263 rfl ?_
                      exact rV_ret d_M_clause_278 rfl H
                    · replace H := H.2 hc_213
                      refine r_aload_n (i := 0) d_M_clause_216 rfl rfl ?_
                      refine rk_VV (b := 0) (d' := 1) [] [] d_M_clause_217 ml_M_109 rfl rfl (by decide) (by decide) rfl rfl (Nat.le_of_ble_eq_true rfl) (s_M_bad  ?_)
                      exact rV_ret d_M_clause_220 rfl H
              refine r_bipush d_M_clause_117 bp_40 ?_
              refine r_icmp_ne (tgt := 126) d_M_clause_119 (by decide) (fun hc_119 => ?_) (fun hc_119 => ?_)
              · refine r_iconst d_M_clause_126 ic_0 ?_
                exact J119 _ (((if_neg hc_119).trans rfl)).symm
              · refine r_iconst d_M_clause_122 ic_1 ?_
                refine r_goto (tgt := 127) d_M_clause_123 (by decide) ?_
                exact J119 _ (((if_pos hc_119).trans rfl)).symm
          · replace H := H.2 hc_85
            exact rV_ret d_M_clause_88 rfl H
    · replace H := H.2 hc_32
      refine r_aload_n (i := 0) d_M_clause_35 rfl rfl ?_
      refine rk_VV (b := 0) (d' := 1) [] [] d_M_clause_36 ml_M_109 rfl rfl (by decide) (by decide) rfl rfl (Nat.le_of_ble_eq_true rfl) (s_M_bad  ?_)
      refine r_aload_n (i := 0) d_M_clause_39 rfl rfl ?_
      refine r_dupr d_M_clause_40 ?_
      refine r_getI (b := 0) (v := (g_M_bad h1).1 0 3) d_M_clause_41 fl_M_93 (by decide) rfl rfl rfl ?_
      refine r_iconst d_M_clause_44 ic_1 ?_
      refine r_iadd d_M_clause_45 ?_
      refine r_putI (b := 0) d_M_clause_46 fp_M_93 ⟨rfl, rfl⟩ (by decide) rfl rfl ?_
      refine r_aload_n (i := 0) d_M_clause_49 rfl rfl ?_
      refine r_getI (b := 0) (v := (g_M_bad h1).1 0 4) d_M_clause_50 fl_M_100 (by decide) rfl rfl rfl ?_
      refine r_iconst d_M_clause_53 ic_m1 ?_
      refine r_icmp_ne (tgt := 70) d_M_clause_54 (by decide) (fun hc_54 => ?_) (fun hc_54 => ?_)
      · replace H := H.2 hc_54
        refine r_aload_n (i := 0) d_M_clause_70 rfl rfl ?_
        refine r_dupr d_M_clause_71 ?_
        refine r_getI (b := 0) (v := (((g_M_bad h1).1 0 3) + 1)) d_M_clause_72 fl_M_93 (by decide) rfl rfl rfl ?_
        refine r_iconst d_M_clause_75 ic_1 ?_
        refine r_iadd d_M_clause_76 ?_
        refine r_putI (b := 0) d_M_clause_77 fp_M_93 ⟨rfl, rfl⟩ (by decide) rfl rfl ?_
        refine r_aload_n (i := 0) d_M_clause_80 rfl rfl ?_
        refine r_getI (b := 0) (v := (g_M_bad h1).1 0 4) d_M_clause_81 fl_M_100 (by decide) rfl rfl rfl ?_
        refine r_iconst d_M_clause_84 ic_m1 ?_
        refine r_icmp_eq (tgt := 89) d_M_clause_85 (by decide) (fun h => absurd h hc_54) (fun _ => ?_)
        exact rV_ret d_M_clause_88 rfl H
      · replace H := H.1 hc_54
        refine r_aload_n (i := 0) d_M_clause_57 rfl rfl ?_
        refine rc_VI (b := 0) (d' := 2) [] [] d_M_clause_58 ml_M_112 rfl rfl (by decide) (by decide) rfl rfl (Nat.le_of_ble_eq_true rfl) H ?_
        intro r48 h47 H
        refine r_bipush d_M_clause_61 bp_58 ?_
        refine r_icmp_eq (tgt := 70) d_M_clause_63 (by decide) (fun hc_63 => ?_) (fun hc_63 => ?_)
        · replace H := H.1 hc_63
          refine r_aload_n (i := 0) d_M_clause_70 rfl rfl ?_
          refine r_dupr d_M_clause_71 ?_
          refine r_getI (b := 0) (v := h47.1 0 3) d_M_clause_72 fl_M_93 (by decide) rfl rfl rfl ?_
          refine r_iconst d_M_clause_75 ic_1 ?_
          refine r_iadd d_M_clause_76 ?_
          refine r_putI (b := 0) d_M_clause_77 fp_M_93 ⟨rfl, rfl⟩ (by decide) rfl rfl ?_
          refine r_aload_n (i := 0) d_M_clause_80 rfl rfl ?_
          refine r_getI (b := 0) (v := h47.1 0 4) d_M_clause_81 fl_M_100 (by decide) rfl rfl rfl ?_
          refine r_iconst d_M_clause_84 ic_m1 ?_
          refine r_icmp_eq (tgt := 89) d_M_clause_85 (by decide) (fun hc_85 => ?_) (fun hc_85 => ?_)
          · replace H := H.1 hc_85
            refine r_aload_n (i := 0) d_M_clause_89 rfl rfl ?_
            refine r_getR (b := 0) (r := 6) d_M_clause_90 fl_M_25 (by decide) rfl rfl rfl ?_
            refine r_iload_n (i := 1) d_M_clause_93 rfl rfl ?_
            refine r_aload_n (i := 0) d_M_clause_94 rfl rfl ?_
            refine r_getR (b := 0) (r := 4) d_M_clause_95 fl_M_19 (by decide) rfl rfl rfl ?_
            refine r_aload_n (i := 0) d_M_clause_98 rfl rfl ?_
            refine r_getI (b := 0) (v := h47.1 0 14) d_M_clause_99 fl_M_103 (by decide) rfl rfl rfl ?_
            obtain ⟨hi_102, H⟩ := H
            refine r_iald (b := 4) (v := h47.2.1 4 (h47.1 0 14).toNatClampNeg) d_M_clause_102 (by decide) rfl hi_102 rfl ?_
            obtain ⟨hi_103, H⟩ := H
            refine r_iast (b := 6) (i := ((90 * (hp.1 0 14)) + (hp.2.1 5 (hp.1 0 14).toNatClampNeg)).toNatClampNeg) d_M_clause_103 (by decide) rfl hi_103 rfl ?_
            refine r_aload_n (i := 0) d_M_clause_104 rfl rfl ?_
            refine rc_VI (b := 0) (d' := 2) [] [] d_M_clause_105 ml_M_112 rfl rfl (by decide) (by decide) rfl rfl (Nat.le_of_ble_eq_true rfl) H ?_
            intro r50 h49 H
            refine r_bipush d_M_clause_108 bp_33 ?_
            refine r_icmp_eq (tgt := 122) d_M_clause_110 (by decide) (fun hc_110 => ?_) (fun hc_110 => ?_)
            · replace H := H.1 hc_110
              refine r_iconst d_M_clause_122 ic_1 ?_
              refine r_goto (tgt := 127) d_M_clause_123 (by decide) ?_
              refine r_istore_n (i := 2) (lz := [some (.ref 0), some (.int ((90 * (hp.1 0 14)) + (hp.2.1 5 (hp.1 0 14).toNatClampNeg))), some (.int 1)]) d_M_clause_127 rfl (by decide) rfl rfl ?_
              refine r_iload_n (i := 2) d_M_clause_128 rfl rfl ?_
              refine r_if_eq (tgt := 139) d_M_clause_129 (by decide) (fun h => absurd h (by decide)) (fun _ => ?_)
              refine r_aload_n (i := 0) d_M_clause_132 rfl rfl ?_
              refine rc_VV (b := 0) (d' := 67) [] [] d_M_clause_133 ml_M_152 rfl rfl (by decide) (by decide) rfl rfl (Nat.le_of_ble_eq_true rfl) H ?_
              intro h51 H
              refine r_goto (tgt := 183) d_M_clause_136 (by decide) ?_
              refine r_aload_n (i := 0) d_M_clause_183 rfl rfl ?_
              refine r_getR (b := 0) (r := 7) d_M_clause_184 fl_M_28 (by decide) rfl rfl rfl ?_
              refine r_iload_n (i := 1) d_M_clause_187 rfl rfl ?_
              refine r_aload_n (i := 0) d_M_clause_188 rfl rfl ?_
              refine r_getR (b := 0) (r := 6) d_M_clause_189 fl_M_25 (by decide) rfl rfl rfl ?_
              refine r_iload_n (i := 1) d_M_clause_192 rfl rfl ?_
              refine r_iald (b := 6) (v := h51.2.1 6 ((90 * (hp.1 0 14)) + (hp.2.1 5 (hp.1 0 14).toNatClampNeg)).toNatClampNeg) d_M_clause_193 (by decide) rfl hi_103 rfl ?_
              refine r_iast (b := 7) (i := ((90 * (hp.1 0 14)) + (hp.2.1 5 (hp.1 0 14).toNatClampNeg)).toNatClampNeg) d_M_clause_194 (by decide) rfl hi_103 rfl ?_
              refine r_iload_n (i := 2) d_M_clause_195 rfl rfl ?_
              refine r_if_eq (tgt := 250) d_M_clause_196 (by decide) (fun h => absurd h (by decide)) (fun _ => ?_)
              refine r_aload_n (i := 0) d_M_clause_199 rfl rfl ?_
              refine r_getI (b := 0) (v := h51.1 0 4) d_M_clause_200 fl_M_100 (by decide) rfl rfl rfl ?_
              refine r_iconst d_M_clause_203 ic_m1 ?_
              refine r_icmp_ne (tgt := 250) d_M_clause_204 (by decide) (fun hc_204 => ?_) (fun hc_204 => ?_)
              · replace H := H.2 hc_204
                refine r_aload_n (i := 0) d_M_clause_250 rfl rfl ?_
                refine r_getR (b := 0) (r := 8) d_M_clause_251 fl_M_31 (by decide) rfl rfl rfl ?_
                refine r_iload_n (i := 1) d_M_clause_254 rfl rfl ?_
                refine r_aload_n (i := 0) d_M_clause_255 rfl rfl ?_
                refine r_getR (b := 0) (r := 4) d_M_clause_256 fl_M_19 (by decide) rfl rfl rfl ?_
                refine r_aload_n (i := 0) d_M_clause_259 rfl rfl ?_
                refine r_getI (b := 0) (v := h51.1 0 14) d_M_clause_260 fl_M_103 (by decide) rfl rfl rfl ?_
                obtain ⟨hi_263, H⟩ := H
                refine r_iald (b := 4) (v := h51.2.1 4 (h51.1 0 14).toNatClampNeg) d_M_clause_263 (by decide) rfl hi_263 rfl ?_
                refine r_iast (b := 8) (i := ((90 * (hp.1 0 14)) + (hp.2.1 5 (hp.1 0 14).toNatClampNeg)).toNatClampNeg) d_M_clause_264 (by decide) rfl hi_103 rfl ?_
                refine r_aload_n (i := 0) d_M_clause_265 rfl rfl ?_
                refine r_getR (b := 0) (r := 5) d_M_clause_266 fl_M_22 (by decide) rfl rfl rfl ?_
                refine r_aload_n (i := 0) d_M_clause_269 rfl rfl ?_
                refine r_getI (b := 0) (v := h51.1 0 14) d_M_clause_270 fl_M_103 (by decide) rfl rfl rfl ?_
                refine r_dup2 d_M_clause_273 ?_
                refine r_iald (b := 5) (v := h51.2.1 5 (h51.1 0 14).toNatClampNeg) d_M_clause_274 (by decide) rfl hi_263 rfl ?_
                refine r_iconst d_M_clause_275 ic_1 ?_
                refine r_iadd d_M_clause_276 ?_
                refine r_iast (b := 5) (i := (h51.1 0 14).toNatClampNeg) d_M_clause_277 (by decide) rfl hi_263 rfl ?_
                exact rV_ret d_M_clause_278 rfl H
              · replace H := H.1 hc_204
                refine r_aload_n (i := 0) d_M_clause_207 rfl rfl ?_
                refine rc_VI (b := 0) (d' := 2) [] [] d_M_clause_208 ml_M_112 rfl rfl (by decide) (by decide) rfl rfl (Nat.le_of_ble_eq_true rfl) H ?_
                intro r53 h52 H
                refine r_bipush d_M_clause_211 bp_63 ?_
                refine r_icmp_eq (tgt := 221) d_M_clause_213 (by decide) (fun hc_213 => ?_) (fun hc_213 => ?_)
                · replace H := H.1 hc_213
                  refine r_aload_n (i := 0) d_M_clause_221 rfl rfl ?_
                  refine r_dupr d_M_clause_222 ?_
                  refine r_getI (b := 0) (v := h52.1 0 3) d_M_clause_223 fl_M_93 (by decide) rfl rfl rfl ?_
                  refine r_iconst d_M_clause_226 ic_1 ?_
                  refine r_iadd d_M_clause_227 ?_
                  refine r_putI (b := 0) d_M_clause_228 fp_M_93 ⟨rfl, rfl⟩ (by decide) rfl rfl ?_
                  refine r_aload_n (i := 0) d_M_clause_231 rfl rfl ?_
                  refine r_getR (b := 0) (r := 7) d_M_clause_232 fl_M_28 (by decide) rfl rfl rfl ?_
                  refine r_iload_n (i := 1) d_M_clause_235 rfl rfl ?_
                  refine r_aload_n (i := 0) d_M_clause_236 rfl rfl ?_
                  refine r_getR (b := 0) (r := 4) d_M_clause_237 fl_M_19 (by decide) rfl rfl rfl ?_
                  refine r_aload_n (i := 0) d_M_clause_240 rfl rfl ?_
                  refine r_getI (b := 0) (v := h52.1 0 14) d_M_clause_241 fl_M_103 (by decide) rfl rfl rfl ?_
                  obtain ⟨hi_244, H⟩ := H
                  refine r_iald (b := 4) (v := h52.2.1 4 (h52.1 0 14).toNatClampNeg) d_M_clause_244 (by decide) rfl hi_244 rfl ?_
                  refine r_iast (b := 7) (i := ((90 * (hp.1 0 14)) + (hp.2.1 5 (hp.1 0 14).toNatClampNeg)).toNatClampNeg) d_M_clause_245 (by decide) rfl hi_103 rfl ?_
                  refine r_aload_n (i := 0) d_M_clause_246 rfl rfl ?_
                  refine rc_VV (b := 0) (d' := 36) [] [] d_M_clause_247 ml_M_133 rfl rfl (by decide) (by decide) rfl rfl (Nat.le_of_ble_eq_true rfl) H ?_
                  intro h54 H
                  refine r_aload_n (i := 0) d_M_clause_250 rfl rfl ?_
                  refine r_getR (b := 0) (r := 8) d_M_clause_251 fl_M_31 (by decide) rfl rfl rfl ?_
                  refine r_iload_n (i := 1) d_M_clause_254 rfl rfl ?_
                  refine r_aload_n (i := 0) d_M_clause_255 rfl rfl ?_
                  refine r_getR (b := 0) (r := 4) d_M_clause_256 fl_M_19 (by decide) rfl rfl rfl ?_
                  refine r_aload_n (i := 0) d_M_clause_259 rfl rfl ?_
                  refine r_getI (b := 0) (v := h54.1 0 14) d_M_clause_260 fl_M_103 (by decide) rfl rfl rfl ?_
                  obtain ⟨hi_263, H⟩ := H
                  refine r_iald (b := 4) (v := h54.2.1 4 (h54.1 0 14).toNatClampNeg) d_M_clause_263 (by decide) rfl hi_263 rfl ?_
                  refine r_iast (b := 8) (i := ((90 * (hp.1 0 14)) + (hp.2.1 5 (hp.1 0 14).toNatClampNeg)).toNatClampNeg) d_M_clause_264 (by decide) rfl hi_103 rfl ?_
                  refine r_aload_n (i := 0) d_M_clause_265 rfl rfl ?_
                  refine r_getR (b := 0) (r := 5) d_M_clause_266 fl_M_22 (by decide) rfl rfl rfl ?_
                  refine r_aload_n (i := 0) d_M_clause_269 rfl rfl ?_
                  refine r_getI (b := 0) (v := h54.1 0 14) d_M_clause_270 fl_M_103 (by decide) rfl rfl rfl ?_
                  refine r_dup2 d_M_clause_273 ?_
                  refine r_iald (b := 5) (v := h54.2.1 5 (h54.1 0 14).toNatClampNeg) d_M_clause_274 (by decide) rfl hi_263 rfl ?_
                  refine r_iconst d_M_clause_275 ic_1 ?_
                  refine r_iadd d_M_clause_276 ?_
                  refine r_iast (b := 5) (i := (h54.1 0 14).toNatClampNeg) d_M_clause_277 (by decide) rfl hi_263 rfl ?_
                  exact rV_ret d_M_clause_278 rfl H
                · replace H := H.2 hc_213
                  refine r_aload_n (i := 0) d_M_clause_216 rfl rfl ?_
                  refine rk_VV (b := 0) (d' := 1) [] [] d_M_clause_217 ml_M_109 rfl rfl (by decide) (by decide) rfl rfl (Nat.le_of_ble_eq_true rfl) (s_M_bad  ?_)
                  exact rV_ret d_M_clause_220 rfl H
            · replace H := H.2 hc_110
              refine r_aload_n (i := 0) d_M_clause_113 rfl rfl ?_
              refine rc_VI (b := 0) (d' := 2) [] [] d_M_clause_114 ml_M_112 rfl rfl (by decide) (by decide) rfl rfl (Nat.le_of_ble_eq_true rfl) H ?_
              intro r56 h55 H
              have J119 : ∀ (v119_0 : Int32), v119_0 = ((if r56 = 40 then 1 else 0) : Int32) → Rn wM G 75 q_M_clause 127 [some (.ref 0), some (.int ((90 * (hp.1 0 14)) + (hp.2.1 5 (hp.1 0 14).toNatClampNeg))), none] [.int v119_0] h55 (rV F) := by
                rintro _ rfl
                refine r_istore_n (i := 2) (lz := [some (.ref 0), some (.int ((90 * (hp.1 0 14)) + (hp.2.1 5 (hp.1 0 14).toNatClampNeg))), some (.int ((if r56 = 40 then 1 else 0) : Int32))]) d_M_clause_127 rfl (by decide) rfl rfl ?_
                refine r_iload_n (i := 2) d_M_clause_128 rfl rfl ?_
                refine r_if_eq (tgt := 139) d_M_clause_129 (by decide) (fun hc_129 => ?_) (fun hc_129 => ?_)
                · replace H := H.1 hc_129
                  refine r_aload_n (i := 0) d_M_clause_139 rfl rfl ?_
                  refine rc_VV (b := 0) (d' := 36) [] [] d_M_clause_140 ml_M_133 rfl rfl (by decide) (by decide) rfl rfl (Nat.le_of_ble_eq_true rfl) H ?_
                  intro h57 H
                  refine r_aload_n (i := 0) d_M_clause_143 rfl rfl ?_
                  refine r_getI (b := 0) (v := h57.1 0 4) d_M_clause_144 fl_M_100 (by decide) rfl rfl rfl ?_
                  refine r_iconst d_M_clause_147 ic_m1 ?_
                  refine r_icmp_ne (tgt := 165) d_M_clause_148 (by decide) (fun hc_148 => ?_) (fun hc_148 => ?_)
                  · replace H := H.2 hc_148
                    refine r_iconst d_M_clause_165 ic_0 ?_
                    refine r_istore_n (i := 2) (lz := [some (.ref 0), some (.int ((90 * (hp.1 0 14)) + (hp.2.1 5 (hp.1 0 14).toNatClampNeg))), some (.int 0)]) d_M_clause_166 rfl (by decide) rfl rfl ?_
                    refine r_iload_n (i := 2) d_M_clause_167 rfl rfl ?_
                    refine r_if_eq (tgt := 183) d_M_clause_168 (by decide) (fun _ => ?_) (fun h => absurd (by decide) h)
                    refine r_aload_n (i := 0) d_M_clause_183 rfl rfl ?_
                    refine r_getR (b := 0) (r := 7) d_M_clause_184 fl_M_28 (by decide) rfl rfl rfl ?_
                    refine r_iload_n (i := 1) d_M_clause_187 rfl rfl ?_
                    refine r_aload_n (i := 0) d_M_clause_188 rfl rfl ?_
                    refine r_getR (b := 0) (r := 6) d_M_clause_189 fl_M_25 (by decide) rfl rfl rfl ?_
                    refine r_iload_n (i := 1) d_M_clause_192 rfl rfl ?_
                    refine r_iald (b := 6) (v := h57.2.1 6 ((90 * (hp.1 0 14)) + (hp.2.1 5 (hp.1 0 14).toNatClampNeg)).toNatClampNeg) d_M_clause_193 (by decide) rfl hi_103 rfl ?_
                    refine r_iast (b := 7) (i := ((90 * (hp.1 0 14)) + (hp.2.1 5 (hp.1 0 14).toNatClampNeg)).toNatClampNeg) d_M_clause_194 (by decide) rfl hi_103 rfl ?_
                    refine r_iload_n (i := 2) d_M_clause_195 rfl rfl ?_
                    refine r_if_eq (tgt := 250) d_M_clause_196 (by decide) (fun _ => ?_) (fun h => absurd (by decide) h)
                    refine r_aload_n (i := 0) d_M_clause_250 rfl rfl ?_
                    refine r_getR (b := 0) (r := 8) d_M_clause_251 fl_M_31 (by decide) rfl rfl rfl ?_
                    refine r_iload_n (i := 1) d_M_clause_254 rfl rfl ?_
                    refine r_aload_n (i := 0) d_M_clause_255 rfl rfl ?_
                    refine r_getR (b := 0) (r := 4) d_M_clause_256 fl_M_19 (by decide) rfl rfl rfl ?_
                    refine r_aload_n (i := 0) d_M_clause_259 rfl rfl ?_
                    refine r_getI (b := 0) (v := h57.1 0 14) d_M_clause_260 fl_M_103 (by decide) rfl rfl rfl ?_
                    obtain ⟨hi_263, H⟩ := H
                    refine r_iald (b := 4) (v := h57.2.1 4 (h57.1 0 14).toNatClampNeg) d_M_clause_263 (by decide) rfl hi_263 rfl ?_
                    refine r_iast (b := 8) (i := ((90 * (hp.1 0 14)) + (hp.2.1 5 (hp.1 0 14).toNatClampNeg)).toNatClampNeg) d_M_clause_264 (by decide) rfl hi_103 rfl ?_
                    refine r_aload_n (i := 0) d_M_clause_265 rfl rfl ?_
                    refine r_getR (b := 0) (r := 5) d_M_clause_266 fl_M_22 (by decide) rfl rfl rfl ?_
                    refine r_aload_n (i := 0) d_M_clause_269 rfl rfl ?_
                    refine r_getI (b := 0) (v := h57.1 0 14) d_M_clause_270 fl_M_103 (by decide) rfl rfl rfl ?_
                    refine r_dup2 d_M_clause_273 ?_
                    refine r_iald (b := 5) (v := h57.2.1 5 (h57.1 0 14).toNatClampNeg) d_M_clause_274 (by decide) rfl hi_263 rfl ?_
                    refine r_iconst d_M_clause_275 ic_1 ?_
                    refine r_iadd d_M_clause_276 ?_
                    refine r_iast (b := 5) (i := (h57.1 0 14).toNatClampNeg) d_M_clause_277 (by decide) rfl hi_263 rfl ?_
                    exact rV_ret d_M_clause_278 rfl H
                  · replace H := H.1 hc_148
                    refine r_aload_n (i := 0) d_M_clause_151 rfl rfl ?_
                    refine rc_VI (b := 0) (d' := 2) [] [] d_M_clause_152 ml_M_112 rfl rfl (by decide) (by decide) rfl rfl (Nat.le_of_ble_eq_true rfl) H ?_
                    intro r59 h58 H
                    have J158 : ∀ (v158_0 : Int32), v158_0 = ((if (f_M_isSign r59) = 0 then 0 else 1) : Int32) → Rn wM G 75 q_M_clause 166 [some (.ref 0), some (.int ((90 * (hp.1 0 14)) + (hp.2.1 5 (hp.1 0 14).toNatClampNeg))), some (.int ((if r56 = 40 then 1 else 0) : Int32))] [.int v158_0] h58 (rV F) := by
                      rintro _ rfl
                      refine r_istore_n (i := 2) (lz := [some (.ref 0), some (.int ((90 * (hp.1 0 14)) + (hp.2.1 5 (hp.1 0 14).toNatClampNeg))), some (.int ((if (f_M_isSign r59) = 0 then 0 else 1) : Int32))]) d_M_clause_166 rfl (by decide) rfl rfl ?_
                      refine r_iload_n (i := 2) d_M_clause_167 rfl rfl ?_
                      refine r_if_eq (tgt := 183) d_M_clause_168 (by decide) (fun hc_168 => ?_) (fun hc_168 => ?_)
                      · replace H := H.1 hc_168
                        refine r_aload_n (i := 0) d_M_clause_183 rfl rfl ?_
                        refine r_getR (b := 0) (r := 7) d_M_clause_184 fl_M_28 (by decide) rfl rfl rfl ?_
                        refine r_iload_n (i := 1) d_M_clause_187 rfl rfl ?_
                        refine r_aload_n (i := 0) d_M_clause_188 rfl rfl ?_
                        refine r_getR (b := 0) (r := 6) d_M_clause_189 fl_M_25 (by decide) rfl rfl rfl ?_
                        refine r_iload_n (i := 1) d_M_clause_192 rfl rfl ?_
                        refine r_iald (b := 6) (v := h58.2.1 6 ((90 * (hp.1 0 14)) + (hp.2.1 5 (hp.1 0 14).toNatClampNeg)).toNatClampNeg) d_M_clause_193 (by decide) rfl hi_103 rfl ?_
                        refine r_iast (b := 7) (i := ((90 * (hp.1 0 14)) + (hp.2.1 5 (hp.1 0 14).toNatClampNeg)).toNatClampNeg) d_M_clause_194 (by decide) rfl hi_103 rfl ?_
                        refine r_iload_n (i := 2) d_M_clause_195 rfl rfl ?_
                        refine r_if_eq (tgt := 250) d_M_clause_196 (by decide) (fun _ => ?_) (fun h => absurd hc_168 h)
                        refine r_aload_n (i := 0) d_M_clause_250 rfl rfl ?_
                        refine r_getR (b := 0) (r := 8) d_M_clause_251 fl_M_31 (by decide) rfl rfl rfl ?_
                        refine r_iload_n (i := 1) d_M_clause_254 rfl rfl ?_
                        refine r_aload_n (i := 0) d_M_clause_255 rfl rfl ?_
                        refine r_getR (b := 0) (r := 4) d_M_clause_256 fl_M_19 (by decide) rfl rfl rfl ?_
                        refine r_aload_n (i := 0) d_M_clause_259 rfl rfl ?_
                        refine r_getI (b := 0) (v := h58.1 0 14) d_M_clause_260 fl_M_103 (by decide) rfl rfl rfl ?_
                        obtain ⟨hi_263, H⟩ := H
                        refine r_iald (b := 4) (v := h58.2.1 4 (h58.1 0 14).toNatClampNeg) d_M_clause_263 (by decide) rfl hi_263 rfl ?_
                        refine r_iast (b := 8) (i := ((90 * (hp.1 0 14)) + (hp.2.1 5 (hp.1 0 14).toNatClampNeg)).toNatClampNeg) d_M_clause_264 (by decide) rfl hi_103 rfl ?_
                        refine r_aload_n (i := 0) d_M_clause_265 rfl rfl ?_
                        refine r_getR (b := 0) (r := 5) d_M_clause_266 fl_M_22 (by decide) rfl rfl rfl ?_
                        refine r_aload_n (i := 0) d_M_clause_269 rfl rfl ?_
                        refine r_getI (b := 0) (v := h58.1 0 14) d_M_clause_270 fl_M_103 (by decide) rfl rfl rfl ?_
                        refine r_dup2 d_M_clause_273 ?_
                        refine r_iald (b := 5) (v := h58.2.1 5 (h58.1 0 14).toNatClampNeg) d_M_clause_274 (by decide) rfl hi_263 rfl ?_
                        refine r_iconst d_M_clause_275 ic_1 ?_
                        refine r_iadd d_M_clause_276 ?_
                        refine r_iast (b := 5) (i := (h58.1 0 14).toNatClampNeg) d_M_clause_277 (by decide) rfl hi_263 rfl ?_
                        exact rV_ret d_M_clause_278 rfl H
                      · replace H := H.2 hc_168
                        refine r_aload_n (i := 0) d_M_clause_171 rfl rfl ?_
                        refine rc_VV (b := 0) (d' := 37) [] [] d_M_clause_172 ml_M_155 rfl rfl (by decide) (by decide) rfl rfl (Nat.le_of_ble_eq_true rfl) H ?_
                        intro h60 H
                        refine r_aload_n (i := 0) d_M_clause_175 rfl rfl ?_
                        refine rc_VV (b := 0) (d' := 65) [] [] d_M_clause_176 ml_M_158 rfl rfl (by decide) (by decide) rfl rfl (Nat.le_of_ble_eq_true rfl) H ?_
                        intro h61 H
                        refine r_aload_n (i := 0) d_M_clause_179 rfl rfl ?_
                        refine rc_VV (b := 0) (d' := 66) [] [] d_M_clause_180 ml_M_161 rfl rfl (by decide) (by decide) rfl rfl (Nat.le_of_ble_eq_true rfl) H ?_
                        intro h62 H
                        refine r_aload_n (i := 0) d_M_clause_183 rfl rfl ?_
                        refine r_getR (b := 0) (r := 7) d_M_clause_184 fl_M_28 (by decide) rfl rfl rfl ?_
                        refine r_iload_n (i := 1) d_M_clause_187 rfl rfl ?_
                        refine r_aload_n (i := 0) d_M_clause_188 rfl rfl ?_
                        refine r_getR (b := 0) (r := 6) d_M_clause_189 fl_M_25 (by decide) rfl rfl rfl ?_
                        refine r_iload_n (i := 1) d_M_clause_192 rfl rfl ?_
                        refine r_iald (b := 6) (v := h62.2.1 6 ((90 * (hp.1 0 14)) + (hp.2.1 5 (hp.1 0 14).toNatClampNeg)).toNatClampNeg) d_M_clause_193 (by decide) rfl hi_103 rfl ?_
                        refine r_iast (b := 7) (i := ((90 * (hp.1 0 14)) + (hp.2.1 5 (hp.1 0 14).toNatClampNeg)).toNatClampNeg) d_M_clause_194 (by decide) rfl hi_103 rfl ?_
                        refine r_iload_n (i := 2) d_M_clause_195 rfl rfl ?_
                        refine r_if_eq (tgt := 250) d_M_clause_196 (by decide) (fun h => absurd h hc_168) (fun _ => ?_)
                        refine r_aload_n (i := 0) d_M_clause_199 rfl rfl ?_
                        refine r_getI (b := 0) (v := h62.1 0 4) d_M_clause_200 fl_M_100 (by decide) rfl rfl rfl ?_
                        refine r_iconst d_M_clause_203 ic_m1 ?_
                        refine r_icmp_ne (tgt := 250) d_M_clause_204 (by decide) (fun hc_204 => ?_) (fun hc_204 => ?_)
                        · replace H := H.2 hc_204
                          refine r_aload_n (i := 0) d_M_clause_250 rfl rfl ?_
                          refine r_getR (b := 0) (r := 8) d_M_clause_251 fl_M_31 (by decide) rfl rfl rfl ?_
                          refine r_iload_n (i := 1) d_M_clause_254 rfl rfl ?_
                          refine r_aload_n (i := 0) d_M_clause_255 rfl rfl ?_
                          refine r_getR (b := 0) (r := 4) d_M_clause_256 fl_M_19 (by decide) rfl rfl rfl ?_
                          refine r_aload_n (i := 0) d_M_clause_259 rfl rfl ?_
                          refine r_getI (b := 0) (v := h62.1 0 14) d_M_clause_260 fl_M_103 (by decide) rfl rfl rfl ?_
                          obtain ⟨hi_263, H⟩ := H
                          refine r_iald (b := 4) (v := h62.2.1 4 (h62.1 0 14).toNatClampNeg) d_M_clause_263 (by decide) rfl hi_263 rfl ?_
                          refine r_iast (b := 8) (i := ((90 * (hp.1 0 14)) + (hp.2.1 5 (hp.1 0 14).toNatClampNeg)).toNatClampNeg) d_M_clause_264 (by decide) rfl hi_103 rfl ?_
                          refine r_aload_n (i := 0) d_M_clause_265 rfl rfl ?_
                          refine r_getR (b := 0) (r := 5) d_M_clause_266 fl_M_22 (by decide) rfl rfl rfl ?_
                          refine r_aload_n (i := 0) d_M_clause_269 rfl rfl ?_
                          refine r_getI (b := 0) (v := h62.1 0 14) d_M_clause_270 fl_M_103 (by decide) rfl rfl rfl ?_
                          refine r_dup2 d_M_clause_273 ?_
                          refine r_iald (b := 5) (v := h62.2.1 5 (h62.1 0 14).toNatClampNeg) d_M_clause_274 (by decide) rfl hi_263 rfl ?_
                          refine r_iconst d_M_clause_275 ic_1 ?_
                          refine r_iadd d_M_clause_276 ?_
                          refine r_iast (b := 5) (i := (h62.1 0 14).toNatClampNeg) d_M_clause_277 (by decide) rfl hi_263 rfl ?_
                          exact rV_ret d_M_clause_278 rfl H
                        · replace H := H.1 hc_204
                          refine r_aload_n (i := 0) d_M_clause_207 rfl rfl ?_
                          refine rc_VI (b := 0) (d' := 2) [] [] d_M_clause_208 ml_M_112 rfl rfl (by decide) (by decide) rfl rfl (Nat.le_of_ble_eq_true rfl) H ?_
                          intro r64 h63 H
                          refine r_bipush d_M_clause_211 bp_63 ?_
                          refine r_icmp_eq (tgt := 221) d_M_clause_213 (by decide) (fun hc_213 => ?_) (fun hc_213 => ?_)
                          · replace H := H.1 hc_213
                            refine r_aload_n (i := 0) d_M_clause_221 rfl rfl ?_
                            refine r_dupr d_M_clause_222 ?_
                            refine r_getI (b := 0) (v := h63.1 0 3) d_M_clause_223 fl_M_93 (by decide) rfl rfl rfl ?_
                            refine r_iconst d_M_clause_226 ic_1 ?_
                            refine r_iadd d_M_clause_227 ?_
                            refine r_putI (b := 0) d_M_clause_228 fp_M_93 ⟨rfl, rfl⟩ (by decide) rfl rfl ?_
                            refine r_aload_n (i := 0) d_M_clause_231 rfl rfl ?_
                            refine r_getR (b := 0) (r := 7) d_M_clause_232 fl_M_28 (by decide) rfl rfl rfl ?_
                            refine r_iload_n (i := 1) d_M_clause_235 rfl rfl ?_
                            refine r_aload_n (i := 0) d_M_clause_236 rfl rfl ?_
                            refine r_getR (b := 0) (r := 4) d_M_clause_237 fl_M_19 (by decide) rfl rfl rfl ?_
                            refine r_aload_n (i := 0) d_M_clause_240 rfl rfl ?_
                            refine r_getI (b := 0) (v := h63.1 0 14) d_M_clause_241 fl_M_103 (by decide) rfl rfl rfl ?_
                            obtain ⟨hi_244, H⟩ := H
                            refine r_iald (b := 4) (v := h63.2.1 4 (h63.1 0 14).toNatClampNeg) d_M_clause_244 (by decide) rfl hi_244 rfl ?_
                            refine r_iast (b := 7) (i := ((90 * (hp.1 0 14)) + (hp.2.1 5 (hp.1 0 14).toNatClampNeg)).toNatClampNeg) d_M_clause_245 (by decide) rfl hi_103 rfl ?_
                            refine r_aload_n (i := 0) d_M_clause_246 rfl rfl ?_
                            refine rc_VV (b := 0) (d' := 36) [] [] d_M_clause_247 ml_M_133 rfl rfl (by decide) (by decide) rfl rfl (Nat.le_of_ble_eq_true rfl) H ?_
                            intro h65 H
                            refine r_aload_n (i := 0) d_M_clause_250 rfl rfl ?_
                            refine r_getR (b := 0) (r := 8) d_M_clause_251 fl_M_31 (by decide) rfl rfl rfl ?_
                            refine r_iload_n (i := 1) d_M_clause_254 rfl rfl ?_
                            refine r_aload_n (i := 0) d_M_clause_255 rfl rfl ?_
                            refine r_getR (b := 0) (r := 4) d_M_clause_256 fl_M_19 (by decide) rfl rfl rfl ?_
                            refine r_aload_n (i := 0) d_M_clause_259 rfl rfl ?_
                            refine r_getI (b := 0) (v := h65.1 0 14) d_M_clause_260 fl_M_103 (by decide) rfl rfl rfl ?_
                            obtain ⟨hi_263, H⟩ := H
                            refine r_iald (b := 4) (v := h65.2.1 4 (h65.1 0 14).toNatClampNeg) d_M_clause_263 (by decide) rfl hi_263 rfl ?_
                            refine r_iast (b := 8) (i := ((90 * (hp.1 0 14)) + (hp.2.1 5 (hp.1 0 14).toNatClampNeg)).toNatClampNeg) d_M_clause_264 (by decide) rfl hi_103 rfl ?_
                            refine r_aload_n (i := 0) d_M_clause_265 rfl rfl ?_
                            refine r_getR (b := 0) (r := 5) d_M_clause_266 fl_M_22 (by decide) rfl rfl rfl ?_
                            refine r_aload_n (i := 0) d_M_clause_269 rfl rfl ?_
                            refine r_getI (b := 0) (v := h65.1 0 14) d_M_clause_270 fl_M_103 (by decide) rfl rfl rfl ?_
                            refine r_dup2 d_M_clause_273 ?_
                            refine r_iald (b := 5) (v := h65.2.1 5 (h65.1 0 14).toNatClampNeg) d_M_clause_274 (by decide) rfl hi_263 rfl ?_
                            refine r_iconst d_M_clause_275 ic_1 ?_
                            refine r_iadd d_M_clause_276 ?_
                            refine r_iast (b := 5) (i := (h65.1 0 14).toNatClampNeg) d_M_clause_277 (by decide) rfl hi_263 rfl ?_
                            exact rV_ret d_M_clause_278 rfl H
                          · replace H := H.2 hc_213
                            refine r_aload_n (i := 0) d_M_clause_216 rfl rfl ?_
                            refine rk_VV (b := 0) (d' := 1) [] [] d_M_clause_217 ml_M_109 rfl rfl (by decide) (by decide) rfl rfl (Nat.le_of_ble_eq_true rfl) (s_M_bad  ?_)
                            exact rV_ret d_M_clause_220 rfl H
                    refine rk_SI (d' := 1) [.int r59] [] d_M_clause_155 ml_M_146 rfl rfl (by decide) (Nat.le_of_ble_eq_true rfl) (s_M_isSign r59 ?_)
                    refine r_if_eq (tgt := 165) d_M_clause_158 (by decide) (fun hc_158 => ?_) (fun hc_158 => ?_)
                    · refine r_iconst d_M_clause_165 ic_0 ?_
                      exact J158 _ (((if_pos hc_158).trans rfl)).symm
                    · refine r_iconst d_M_clause_161 ic_1 ?_
                      refine r_goto (tgt := 166) d_M_clause_162 (by decide) ?_
                      exact J158 _ (((if_neg hc_158).trans rfl)).symm
                · replace H := H.2 hc_129
                  refine r_aload_n (i := 0) d_M_clause_132 rfl rfl ?_
                  refine rc_VV (b := 0) (d' := 67) [] [] d_M_clause_133 ml_M_152 rfl rfl (by decide) (by decide) rfl rfl (Nat.le_of_ble_eq_true rfl) H ?_
                  intro h66 H
                  refine r_goto (tgt := 183) d_M_clause_136 (by decide) ?_
                  refine r_aload_n (i := 0) d_M_clause_183 rfl rfl ?_
                  refine r_getR (b := 0) (r := 7) d_M_clause_184 fl_M_28 (by decide) rfl rfl rfl ?_
                  refine r_iload_n (i := 1) d_M_clause_187 rfl rfl ?_
                  refine r_aload_n (i := 0) d_M_clause_188 rfl rfl ?_
                  refine r_getR (b := 0) (r := 6) d_M_clause_189 fl_M_25 (by decide) rfl rfl rfl ?_
                  refine r_iload_n (i := 1) d_M_clause_192 rfl rfl ?_
                  refine r_iald (b := 6) (v := h66.2.1 6 ((90 * (hp.1 0 14)) + (hp.2.1 5 (hp.1 0 14).toNatClampNeg)).toNatClampNeg) d_M_clause_193 (by decide) rfl hi_103 rfl ?_
                  refine r_iast (b := 7) (i := ((90 * (hp.1 0 14)) + (hp.2.1 5 (hp.1 0 14).toNatClampNeg)).toNatClampNeg) d_M_clause_194 (by decide) rfl hi_103 rfl ?_
                  refine r_iload_n (i := 2) d_M_clause_195 rfl rfl ?_
                  refine r_if_eq (tgt := 250) d_M_clause_196 (by decide) (fun h => absurd h hc_129) (fun _ => ?_)
                  refine r_aload_n (i := 0) d_M_clause_199 rfl rfl ?_
                  refine r_getI (b := 0) (v := h66.1 0 4) d_M_clause_200 fl_M_100 (by decide) rfl rfl rfl ?_
                  refine r_iconst d_M_clause_203 ic_m1 ?_
                  refine r_icmp_ne (tgt := 250) d_M_clause_204 (by decide) (fun hc_204 => ?_) (fun hc_204 => ?_)
                  · replace H := H.2 hc_204
                    refine r_aload_n (i := 0) d_M_clause_250 rfl rfl ?_
                    refine r_getR (b := 0) (r := 8) d_M_clause_251 fl_M_31 (by decide) rfl rfl rfl ?_
                    refine r_iload_n (i := 1) d_M_clause_254 rfl rfl ?_
                    refine r_aload_n (i := 0) d_M_clause_255 rfl rfl ?_
                    refine r_getR (b := 0) (r := 4) d_M_clause_256 fl_M_19 (by decide) rfl rfl rfl ?_
                    refine r_aload_n (i := 0) d_M_clause_259 rfl rfl ?_
                    refine r_getI (b := 0) (v := h66.1 0 14) d_M_clause_260 fl_M_103 (by decide) rfl rfl rfl ?_
                    obtain ⟨hi_263, H⟩ := H
                    refine r_iald (b := 4) (v := h66.2.1 4 (h66.1 0 14).toNatClampNeg) d_M_clause_263 (by decide) rfl hi_263 rfl ?_
                    refine r_iast (b := 8) (i := ((90 * (hp.1 0 14)) + (hp.2.1 5 (hp.1 0 14).toNatClampNeg)).toNatClampNeg) d_M_clause_264 (by decide) rfl hi_103 rfl ?_
                    refine r_aload_n (i := 0) d_M_clause_265 rfl rfl ?_
                    refine r_getR (b := 0) (r := 5) d_M_clause_266 fl_M_22 (by decide) rfl rfl rfl ?_
                    refine r_aload_n (i := 0) d_M_clause_269 rfl rfl ?_
                    refine r_getI (b := 0) (v := h66.1 0 14) d_M_clause_270 fl_M_103 (by decide) rfl rfl rfl ?_
                    refine r_dup2 d_M_clause_273 ?_
                    refine r_iald (b := 5) (v := h66.2.1 5 (h66.1 0 14).toNatClampNeg) d_M_clause_274 (by decide) rfl hi_263 rfl ?_
                    refine r_iconst d_M_clause_275 ic_1 ?_
                    refine r_iadd d_M_clause_276 ?_
                    refine r_iast (b := 5) (i := (h66.1 0 14).toNatClampNeg) d_M_clause_277 (by decide) rfl hi_263 rfl ?_
                    exact rV_ret d_M_clause_278 rfl H
                  · replace H := H.1 hc_204
                    refine r_aload_n (i := 0) d_M_clause_207 rfl rfl ?_
                    refine rc_VI (b := 0) (d' := 2) [] [] d_M_clause_208 ml_M_112 rfl rfl (by decide) (by decide) rfl rfl (Nat.le_of_ble_eq_true rfl) H ?_
                    intro r68 h67 H
                    refine r_bipush d_M_clause_211 bp_63 ?_
                    refine r_icmp_eq (tgt := 221) d_M_clause_213 (by decide) (fun hc_213 => ?_) (fun hc_213 => ?_)
                    · replace H := H.1 hc_213
                      refine r_aload_n (i := 0) d_M_clause_221 rfl rfl ?_
                      refine r_dupr d_M_clause_222 ?_
                      refine r_getI (b := 0) (v := h67.1 0 3) d_M_clause_223 fl_M_93 (by decide) rfl rfl rfl ?_
                      refine r_iconst d_M_clause_226 ic_1 ?_
                      refine r_iadd d_M_clause_227 ?_
                      refine r_putI (b := 0) d_M_clause_228 fp_M_93 ⟨rfl, rfl⟩ (by decide) rfl rfl ?_
                      refine r_aload_n (i := 0) d_M_clause_231 rfl rfl ?_
                      refine r_getR (b := 0) (r := 7) d_M_clause_232 fl_M_28 (by decide) rfl rfl rfl ?_
                      refine r_iload_n (i := 1) d_M_clause_235 rfl rfl ?_
                      refine r_aload_n (i := 0) d_M_clause_236 rfl rfl ?_
                      refine r_getR (b := 0) (r := 4) d_M_clause_237 fl_M_19 (by decide) rfl rfl rfl ?_
                      refine r_aload_n (i := 0) d_M_clause_240 rfl rfl ?_
                      refine r_getI (b := 0) (v := h67.1 0 14) d_M_clause_241 fl_M_103 (by decide) rfl rfl rfl ?_
                      obtain ⟨hi_244, H⟩ := H
                      refine r_iald (b := 4) (v := h67.2.1 4 (h67.1 0 14).toNatClampNeg) d_M_clause_244 (by decide) rfl hi_244 rfl ?_
                      refine r_iast (b := 7) (i := ((90 * (hp.1 0 14)) + (hp.2.1 5 (hp.1 0 14).toNatClampNeg)).toNatClampNeg) d_M_clause_245 (by decide) rfl hi_103 rfl ?_
                      refine r_aload_n (i := 0) d_M_clause_246 rfl rfl ?_
                      refine rc_VV (b := 0) (d' := 36) [] [] d_M_clause_247 ml_M_133 rfl rfl (by decide) (by decide) rfl rfl (Nat.le_of_ble_eq_true rfl) H ?_
                      intro h69 H
                      refine r_aload_n (i := 0) d_M_clause_250 rfl rfl ?_
                      refine r_getR (b := 0) (r := 8) d_M_clause_251 fl_M_31 (by decide) rfl rfl rfl ?_
                      refine r_iload_n (i := 1) d_M_clause_254 rfl rfl ?_
                      refine r_aload_n (i := 0) d_M_clause_255 rfl rfl ?_
                      refine r_getR (b := 0) (r := 4) d_M_clause_256 fl_M_19 (by decide) rfl rfl rfl ?_
                      refine r_aload_n (i := 0) d_M_clause_259 rfl rfl ?_
                      refine r_getI (b := 0) (v := h69.1 0 14) d_M_clause_260 fl_M_103 (by decide) rfl rfl rfl ?_
                      obtain ⟨hi_263, H⟩ := H
                      refine r_iald (b := 4) (v := h69.2.1 4 (h69.1 0 14).toNatClampNeg) d_M_clause_263 (by decide) rfl hi_263 rfl ?_
                      refine r_iast (b := 8) (i := ((90 * (hp.1 0 14)) + (hp.2.1 5 (hp.1 0 14).toNatClampNeg)).toNatClampNeg) d_M_clause_264 (by decide) rfl hi_103 rfl ?_
                      refine r_aload_n (i := 0) d_M_clause_265 rfl rfl ?_
                      refine r_getR (b := 0) (r := 5) d_M_clause_266 fl_M_22 (by decide) rfl rfl rfl ?_
                      refine r_aload_n (i := 0) d_M_clause_269 rfl rfl ?_
                      refine r_getI (b := 0) (v := h69.1 0 14) d_M_clause_270 fl_M_103 (by decide) rfl rfl rfl ?_
                      refine r_dup2 d_M_clause_273 ?_
                      refine r_iald (b := 5) (v := h69.2.1 5 (h69.1 0 14).toNatClampNeg) d_M_clause_274 (by decide) rfl hi_263 rfl ?_
                      refine r_iconst d_M_clause_275 ic_1 ?_
                      refine r_iadd d_M_clause_276 ?_
                      refine r_iast (b := 5) (i := (h69.1 0 14).toNatClampNeg) d_M_clause_277 (by decide) rfl hi_263 rfl ?_
                      exact rV_ret d_M_clause_278 rfl H
                    · replace H := H.2 hc_213
                      refine r_aload_n (i := 0) d_M_clause_216 rfl rfl ?_
                      refine rk_VV (b := 0) (d' := 1) [] [] d_M_clause_217 ml_M_109 rfl rfl (by decide) (by decide) rfl rfl (Nat.le_of_ble_eq_true rfl) (s_M_bad  ?_)
                      exact rV_ret d_M_clause_220 rfl H
              refine r_bipush d_M_clause_117 bp_40 ?_
              refine r_icmp_ne (tgt := 126) d_M_clause_119 (by decide) (fun hc_119 => ?_) (fun hc_119 => ?_)
              · refine r_iconst d_M_clause_126 ic_0 ?_
                exact J119 _ (((if_neg hc_119).trans rfl)).symm
              · refine r_iconst d_M_clause_122 ic_1 ?_
                refine r_goto (tgt := 127) d_M_clause_123 (by decide) ?_
                exact J119 _ (((if_pos hc_119).trans rfl)).symm
          · replace H := H.2 hc_85
            exact rV_ret d_M_clause_88 rfl H
        · replace H := H.2 hc_63
          refine r_aload_n (i := 0) d_M_clause_66 rfl rfl ?_
          refine rk_VV (b := 0) (d' := 1) [] [] d_M_clause_67 ml_M_109 rfl rfl (by decide) (by decide) rfl rfl (Nat.le_of_ble_eq_true rfl) (s_M_bad  ?_)
          refine r_aload_n (i := 0) d_M_clause_70 rfl rfl ?_
          refine r_dupr d_M_clause_71 ?_
          refine r_getI (b := 0) (v := (g_M_bad h47).1 0 3) d_M_clause_72 fl_M_93 (by decide) rfl rfl rfl ?_
          refine r_iconst d_M_clause_75 ic_1 ?_
          refine r_iadd d_M_clause_76 ?_
          refine r_putI (b := 0) d_M_clause_77 fp_M_93 ⟨rfl, rfl⟩ (by decide) rfl rfl ?_
          refine r_aload_n (i := 0) d_M_clause_80 rfl rfl ?_
          refine r_getI (b := 0) (v := (g_M_bad h47).1 0 4) d_M_clause_81 fl_M_100 (by decide) rfl rfl rfl ?_
          refine r_iconst d_M_clause_84 ic_m1 ?_
          refine r_icmp_eq (tgt := 89) d_M_clause_85 (by decide) (fun hc_85 => ?_) (fun hc_85 => ?_)
          · replace H := H.1 hc_85
            refine r_aload_n (i := 0) d_M_clause_89 rfl rfl ?_
            refine r_getR (b := 0) (r := 6) d_M_clause_90 fl_M_25 (by decide) rfl rfl rfl ?_
            refine r_iload_n (i := 1) d_M_clause_93 rfl rfl ?_
            refine r_aload_n (i := 0) d_M_clause_94 rfl rfl ?_
            refine r_getR (b := 0) (r := 4) d_M_clause_95 fl_M_19 (by decide) rfl rfl rfl ?_
            refine r_aload_n (i := 0) d_M_clause_98 rfl rfl ?_
            refine r_getI (b := 0) (v := (g_M_bad h47).1 0 14) d_M_clause_99 fl_M_103 (by decide) rfl rfl rfl ?_
            obtain ⟨hi_102, H⟩ := H
            refine r_iald (b := 4) (v := (g_M_bad h47).2.1 4 ((g_M_bad h47).1 0 14).toNatClampNeg) d_M_clause_102 (by decide) rfl hi_102 rfl ?_
            obtain ⟨hi_103, H⟩ := H
            refine r_iast (b := 6) (i := ((90 * (hp.1 0 14)) + (hp.2.1 5 (hp.1 0 14).toNatClampNeg)).toNatClampNeg) d_M_clause_103 (by decide) rfl hi_103 rfl ?_
            refine r_aload_n (i := 0) d_M_clause_104 rfl rfl ?_
            refine rc_VI (b := 0) (d' := 2) [] [] d_M_clause_105 ml_M_112 rfl rfl (by decide) (by decide) rfl rfl (Nat.le_of_ble_eq_true rfl) H ?_
            intro r71 h70 H
            refine r_bipush d_M_clause_108 bp_33 ?_
            refine r_icmp_eq (tgt := 122) d_M_clause_110 (by decide) (fun hc_110 => ?_) (fun hc_110 => ?_)
            · replace H := H.1 hc_110
              refine r_iconst d_M_clause_122 ic_1 ?_
              refine r_goto (tgt := 127) d_M_clause_123 (by decide) ?_
              refine r_istore_n (i := 2) (lz := [some (.ref 0), some (.int ((90 * (hp.1 0 14)) + (hp.2.1 5 (hp.1 0 14).toNatClampNeg))), some (.int 1)]) d_M_clause_127 rfl (by decide) rfl rfl ?_
              refine r_iload_n (i := 2) d_M_clause_128 rfl rfl ?_
              refine r_if_eq (tgt := 139) d_M_clause_129 (by decide) (fun h => absurd h (by decide)) (fun _ => ?_)
              refine r_aload_n (i := 0) d_M_clause_132 rfl rfl ?_
              refine rc_VV (b := 0) (d' := 67) [] [] d_M_clause_133 ml_M_152 rfl rfl (by decide) (by decide) rfl rfl (Nat.le_of_ble_eq_true rfl) H ?_
              intro h72 H
              refine r_goto (tgt := 183) d_M_clause_136 (by decide) ?_
              refine r_aload_n (i := 0) d_M_clause_183 rfl rfl ?_
              refine r_getR (b := 0) (r := 7) d_M_clause_184 fl_M_28 (by decide) rfl rfl rfl ?_
              refine r_iload_n (i := 1) d_M_clause_187 rfl rfl ?_
              refine r_aload_n (i := 0) d_M_clause_188 rfl rfl ?_
              refine r_getR (b := 0) (r := 6) d_M_clause_189 fl_M_25 (by decide) rfl rfl rfl ?_
              refine r_iload_n (i := 1) d_M_clause_192 rfl rfl ?_
              refine r_iald (b := 6) (v := h72.2.1 6 ((90 * (hp.1 0 14)) + (hp.2.1 5 (hp.1 0 14).toNatClampNeg)).toNatClampNeg) d_M_clause_193 (by decide) rfl hi_103 rfl ?_
              refine r_iast (b := 7) (i := ((90 * (hp.1 0 14)) + (hp.2.1 5 (hp.1 0 14).toNatClampNeg)).toNatClampNeg) d_M_clause_194 (by decide) rfl hi_103 rfl ?_
              refine r_iload_n (i := 2) d_M_clause_195 rfl rfl ?_
              refine r_if_eq (tgt := 250) d_M_clause_196 (by decide) (fun h => absurd h (by decide)) (fun _ => ?_)
              refine r_aload_n (i := 0) d_M_clause_199 rfl rfl ?_
              refine r_getI (b := 0) (v := h72.1 0 4) d_M_clause_200 fl_M_100 (by decide) rfl rfl rfl ?_
              refine r_iconst d_M_clause_203 ic_m1 ?_
              refine r_icmp_ne (tgt := 250) d_M_clause_204 (by decide) (fun hc_204 => ?_) (fun hc_204 => ?_)
              · replace H := H.2 hc_204
                refine r_aload_n (i := 0) d_M_clause_250 rfl rfl ?_
                refine r_getR (b := 0) (r := 8) d_M_clause_251 fl_M_31 (by decide) rfl rfl rfl ?_
                refine r_iload_n (i := 1) d_M_clause_254 rfl rfl ?_
                refine r_aload_n (i := 0) d_M_clause_255 rfl rfl ?_
                refine r_getR (b := 0) (r := 4) d_M_clause_256 fl_M_19 (by decide) rfl rfl rfl ?_
                refine r_aload_n (i := 0) d_M_clause_259 rfl rfl ?_
                refine r_getI (b := 0) (v := h72.1 0 14) d_M_clause_260 fl_M_103 (by decide) rfl rfl rfl ?_
                obtain ⟨hi_263, H⟩ := H
                refine r_iald (b := 4) (v := h72.2.1 4 (h72.1 0 14).toNatClampNeg) d_M_clause_263 (by decide) rfl hi_263 rfl ?_
                refine r_iast (b := 8) (i := ((90 * (hp.1 0 14)) + (hp.2.1 5 (hp.1 0 14).toNatClampNeg)).toNatClampNeg) d_M_clause_264 (by decide) rfl hi_103 rfl ?_
                refine r_aload_n (i := 0) d_M_clause_265 rfl rfl ?_
                refine r_getR (b := 0) (r := 5) d_M_clause_266 fl_M_22 (by decide) rfl rfl rfl ?_
                refine r_aload_n (i := 0) d_M_clause_269 rfl rfl ?_
                refine r_getI (b := 0) (v := h72.1 0 14) d_M_clause_270 fl_M_103 (by decide) rfl rfl rfl ?_
                refine r_dup2 d_M_clause_273 ?_
                refine r_iald (b := 5) (v := h72.2.1 5 (h72.1 0 14).toNatClampNeg) d_M_clause_274 (by decide) rfl hi_263 rfl ?_
                refine r_iconst d_M_clause_275 ic_1 ?_
                refine r_iadd d_M_clause_276 ?_
                refine r_iast (b := 5) (i := (h72.1 0 14).toNatClampNeg) d_M_clause_277 (by decide) rfl hi_263 rfl ?_
                exact rV_ret d_M_clause_278 rfl H
              · replace H := H.1 hc_204
                refine r_aload_n (i := 0) d_M_clause_207 rfl rfl ?_
                refine rc_VI (b := 0) (d' := 2) [] [] d_M_clause_208 ml_M_112 rfl rfl (by decide) (by decide) rfl rfl (Nat.le_of_ble_eq_true rfl) H ?_
                intro r74 h73 H
                refine r_bipush d_M_clause_211 bp_63 ?_
                refine r_icmp_eq (tgt := 221) d_M_clause_213 (by decide) (fun hc_213 => ?_) (fun hc_213 => ?_)
                · replace H := H.1 hc_213
                  refine r_aload_n (i := 0) d_M_clause_221 rfl rfl ?_
                  refine r_dupr d_M_clause_222 ?_
                  refine r_getI (b := 0) (v := h73.1 0 3) d_M_clause_223 fl_M_93 (by decide) rfl rfl rfl ?_
                  refine r_iconst d_M_clause_226 ic_1 ?_
                  refine r_iadd d_M_clause_227 ?_
                  refine r_putI (b := 0) d_M_clause_228 fp_M_93 ⟨rfl, rfl⟩ (by decide) rfl rfl ?_
                  refine r_aload_n (i := 0) d_M_clause_231 rfl rfl ?_
                  refine r_getR (b := 0) (r := 7) d_M_clause_232 fl_M_28 (by decide) rfl rfl rfl ?_
                  refine r_iload_n (i := 1) d_M_clause_235 rfl rfl ?_
                  refine r_aload_n (i := 0) d_M_clause_236 rfl rfl ?_
                  refine r_getR (b := 0) (r := 4) d_M_clause_237 fl_M_19 (by decide) rfl rfl rfl ?_
                  refine r_aload_n (i := 0) d_M_clause_240 rfl rfl ?_
                  refine r_getI (b := 0) (v := h73.1 0 14) d_M_clause_241 fl_M_103 (by decide) rfl rfl rfl ?_
                  obtain ⟨hi_244, H⟩ := H
                  refine r_iald (b := 4) (v := h73.2.1 4 (h73.1 0 14).toNatClampNeg) d_M_clause_244 (by decide) rfl hi_244 rfl ?_
                  refine r_iast (b := 7) (i := ((90 * (hp.1 0 14)) + (hp.2.1 5 (hp.1 0 14).toNatClampNeg)).toNatClampNeg) d_M_clause_245 (by decide) rfl hi_103 rfl ?_
                  refine r_aload_n (i := 0) d_M_clause_246 rfl rfl ?_
                  refine rc_VV (b := 0) (d' := 36) [] [] d_M_clause_247 ml_M_133 rfl rfl (by decide) (by decide) rfl rfl (Nat.le_of_ble_eq_true rfl) H ?_
                  intro h75 H
                  refine r_aload_n (i := 0) d_M_clause_250 rfl rfl ?_
                  refine r_getR (b := 0) (r := 8) d_M_clause_251 fl_M_31 (by decide) rfl rfl rfl ?_
                  refine r_iload_n (i := 1) d_M_clause_254 rfl rfl ?_
                  refine r_aload_n (i := 0) d_M_clause_255 rfl rfl ?_
                  refine r_getR (b := 0) (r := 4) d_M_clause_256 fl_M_19 (by decide) rfl rfl rfl ?_
                  refine r_aload_n (i := 0) d_M_clause_259 rfl rfl ?_
                  refine r_getI (b := 0) (v := h75.1 0 14) d_M_clause_260 fl_M_103 (by decide) rfl rfl rfl ?_
                  obtain ⟨hi_263, H⟩ := H
                  refine r_iald (b := 4) (v := h75.2.1 4 (h75.1 0 14).toNatClampNeg) d_M_clause_263 (by decide) rfl hi_263 rfl ?_
                  refine r_iast (b := 8) (i := ((90 * (hp.1 0 14)) + (hp.2.1 5 (hp.1 0 14).toNatClampNeg)).toNatClampNeg) d_M_clause_264 (by decide) rfl hi_103 rfl ?_
                  refine r_aload_n (i := 0) d_M_clause_265 rfl rfl ?_
                  refine r_getR (b := 0) (r := 5) d_M_clause_266 fl_M_22 (by decide) rfl rfl rfl ?_
                  refine r_aload_n (i := 0) d_M_clause_269 rfl rfl ?_
                  refine r_getI (b := 0) (v := h75.1 0 14) d_M_clause_270 fl_M_103 (by decide) rfl rfl rfl ?_
                  refine r_dup2 d_M_clause_273 ?_
                  refine r_iald (b := 5) (v := h75.2.1 5 (h75.1 0 14).toNatClampNeg) d_M_clause_274 (by decide) rfl hi_263 rfl ?_
                  refine r_iconst d_M_clause_275 ic_1 ?_
                  refine r_iadd d_M_clause_276 ?_
                  refine r_iast (b := 5) (i := (h75.1 0 14).toNatClampNeg) d_M_clause_277 (by decide) rfl hi_263 rfl ?_
                  exact rV_ret d_M_clause_278 rfl H
                · replace H := H.2 hc_213
                  refine r_aload_n (i := 0) d_M_clause_216 rfl rfl ?_
                  refine rk_VV (b := 0) (d' := 1) [] [] d_M_clause_217 ml_M_109 rfl rfl (by decide) (by decide) rfl rfl (Nat.le_of_ble_eq_true rfl) (s_M_bad  ?_)
                  exact rV_ret d_M_clause_220 rfl H
            · replace H := H.2 hc_110
              refine r_aload_n (i := 0) d_M_clause_113 rfl rfl ?_
              refine rc_VI (b := 0) (d' := 2) [] [] d_M_clause_114 ml_M_112 rfl rfl (by decide) (by decide) rfl rfl (Nat.le_of_ble_eq_true rfl) H ?_
              intro r77 h76 H
              have J119 : ∀ (v119_0 : Int32), v119_0 = ((if r77 = 40 then 1 else 0) : Int32) → Rn wM G 75 q_M_clause 127 [some (.ref 0), some (.int ((90 * (hp.1 0 14)) + (hp.2.1 5 (hp.1 0 14).toNatClampNeg))), none] [.int v119_0] h76 (rV F) := by
                rintro _ rfl
                refine r_istore_n (i := 2) (lz := [some (.ref 0), some (.int ((90 * (hp.1 0 14)) + (hp.2.1 5 (hp.1 0 14).toNatClampNeg))), some (.int ((if r77 = 40 then 1 else 0) : Int32))]) d_M_clause_127 rfl (by decide) rfl rfl ?_
                refine r_iload_n (i := 2) d_M_clause_128 rfl rfl ?_
                refine r_if_eq (tgt := 139) d_M_clause_129 (by decide) (fun hc_129 => ?_) (fun hc_129 => ?_)
                · replace H := H.1 hc_129
                  refine r_aload_n (i := 0) d_M_clause_139 rfl rfl ?_
                  refine rc_VV (b := 0) (d' := 36) [] [] d_M_clause_140 ml_M_133 rfl rfl (by decide) (by decide) rfl rfl (Nat.le_of_ble_eq_true rfl) H ?_
                  intro h78 H
                  refine r_aload_n (i := 0) d_M_clause_143 rfl rfl ?_
                  refine r_getI (b := 0) (v := h78.1 0 4) d_M_clause_144 fl_M_100 (by decide) rfl rfl rfl ?_
                  refine r_iconst d_M_clause_147 ic_m1 ?_
                  refine r_icmp_ne (tgt := 165) d_M_clause_148 (by decide) (fun hc_148 => ?_) (fun hc_148 => ?_)
                  · replace H := H.2 hc_148
                    refine r_iconst d_M_clause_165 ic_0 ?_
                    refine r_istore_n (i := 2) (lz := [some (.ref 0), some (.int ((90 * (hp.1 0 14)) + (hp.2.1 5 (hp.1 0 14).toNatClampNeg))), some (.int 0)]) d_M_clause_166 rfl (by decide) rfl rfl ?_
                    refine r_iload_n (i := 2) d_M_clause_167 rfl rfl ?_
                    refine r_if_eq (tgt := 183) d_M_clause_168 (by decide) (fun _ => ?_) (fun h => absurd (by decide) h)
                    refine r_aload_n (i := 0) d_M_clause_183 rfl rfl ?_
                    refine r_getR (b := 0) (r := 7) d_M_clause_184 fl_M_28 (by decide) rfl rfl rfl ?_
                    refine r_iload_n (i := 1) d_M_clause_187 rfl rfl ?_
                    refine r_aload_n (i := 0) d_M_clause_188 rfl rfl ?_
                    refine r_getR (b := 0) (r := 6) d_M_clause_189 fl_M_25 (by decide) rfl rfl rfl ?_
                    refine r_iload_n (i := 1) d_M_clause_192 rfl rfl ?_
                    refine r_iald (b := 6) (v := h78.2.1 6 ((90 * (hp.1 0 14)) + (hp.2.1 5 (hp.1 0 14).toNatClampNeg)).toNatClampNeg) d_M_clause_193 (by decide) rfl hi_103 rfl ?_
                    refine r_iast (b := 7) (i := ((90 * (hp.1 0 14)) + (hp.2.1 5 (hp.1 0 14).toNatClampNeg)).toNatClampNeg) d_M_clause_194 (by decide) rfl hi_103 rfl ?_
                    refine r_iload_n (i := 2) d_M_clause_195 rfl rfl ?_
                    refine r_if_eq (tgt := 250) d_M_clause_196 (by decide) (fun _ => ?_) (fun h => absurd (by decide) h)
                    refine r_aload_n (i := 0) d_M_clause_250 rfl rfl ?_
                    refine r_getR (b := 0) (r := 8) d_M_clause_251 fl_M_31 (by decide) rfl rfl rfl ?_
                    refine r_iload_n (i := 1) d_M_clause_254 rfl rfl ?_
                    refine r_aload_n (i := 0) d_M_clause_255 rfl rfl ?_
                    refine r_getR (b := 0) (r := 4) d_M_clause_256 fl_M_19 (by decide) rfl rfl rfl ?_
                    refine r_aload_n (i := 0) d_M_clause_259 rfl rfl ?_
                    refine r_getI (b := 0) (v := h78.1 0 14) d_M_clause_260 fl_M_103 (by decide) rfl rfl rfl ?_
                    obtain ⟨hi_263, H⟩ := H
                    refine r_iald (b := 4) (v := h78.2.1 4 (h78.1 0 14).toNatClampNeg) d_M_clause_263 (by decide) rfl hi_263 rfl ?_
                    refine r_iast (b := 8) (i := ((90 * (hp.1 0 14)) + (hp.2.1 5 (hp.1 0 14).toNatClampNeg)).toNatClampNeg) d_M_clause_264 (by decide) rfl hi_103 rfl ?_
                    refine r_aload_n (i := 0) d_M_clause_265 rfl rfl ?_
                    refine r_getR (b := 0) (r := 5) d_M_clause_266 fl_M_22 (by decide) rfl rfl rfl ?_
                    refine r_aload_n (i := 0) d_M_clause_269 rfl rfl ?_
                    refine r_getI (b := 0) (v := h78.1 0 14) d_M_clause_270 fl_M_103 (by decide) rfl rfl rfl ?_
                    refine r_dup2 d_M_clause_273 ?_
                    refine r_iald (b := 5) (v := h78.2.1 5 (h78.1 0 14).toNatClampNeg) d_M_clause_274 (by decide) rfl hi_263 rfl ?_
                    refine r_iconst d_M_clause_275 ic_1 ?_
                    refine r_iadd d_M_clause_276 ?_
                    refine r_iast (b := 5) (i := (h78.1 0 14).toNatClampNeg) d_M_clause_277 (by decide) rfl hi_263 rfl ?_
                    exact rV_ret d_M_clause_278 rfl H
                  · replace H := H.1 hc_148
                    refine r_aload_n (i := 0) d_M_clause_151 rfl rfl ?_
                    refine rc_VI (b := 0) (d' := 2) [] [] d_M_clause_152 ml_M_112 rfl rfl (by decide) (by decide) rfl rfl (Nat.le_of_ble_eq_true rfl) H ?_
                    intro r80 h79 H
                    have J158 : ∀ (v158_0 : Int32), v158_0 = ((if (f_M_isSign r80) = 0 then 0 else 1) : Int32) → Rn wM G 75 q_M_clause 166 [some (.ref 0), some (.int ((90 * (hp.1 0 14)) + (hp.2.1 5 (hp.1 0 14).toNatClampNeg))), some (.int ((if r77 = 40 then 1 else 0) : Int32))] [.int v158_0] h79 (rV F) := by
                      rintro _ rfl
                      refine r_istore_n (i := 2) (lz := [some (.ref 0), some (.int ((90 * (hp.1 0 14)) + (hp.2.1 5 (hp.1 0 14).toNatClampNeg))), some (.int ((if (f_M_isSign r80) = 0 then 0 else 1) : Int32))]) d_M_clause_166 rfl (by decide) rfl rfl ?_
                      refine r_iload_n (i := 2) d_M_clause_167 rfl rfl ?_
                      refine r_if_eq (tgt := 183) d_M_clause_168 (by decide) (fun hc_168 => ?_) (fun hc_168 => ?_)
                      · replace H := H.1 hc_168
                        refine r_aload_n (i := 0) d_M_clause_183 rfl rfl ?_
                        refine r_getR (b := 0) (r := 7) d_M_clause_184 fl_M_28 (by decide) rfl rfl rfl ?_
                        refine r_iload_n (i := 1) d_M_clause_187 rfl rfl ?_
                        refine r_aload_n (i := 0) d_M_clause_188 rfl rfl ?_
                        refine r_getR (b := 0) (r := 6) d_M_clause_189 fl_M_25 (by decide) rfl rfl rfl ?_
                        refine r_iload_n (i := 1) d_M_clause_192 rfl rfl ?_
                        refine r_iald (b := 6) (v := h79.2.1 6 ((90 * (hp.1 0 14)) + (hp.2.1 5 (hp.1 0 14).toNatClampNeg)).toNatClampNeg) d_M_clause_193 (by decide) rfl hi_103 rfl ?_
                        refine r_iast (b := 7) (i := ((90 * (hp.1 0 14)) + (hp.2.1 5 (hp.1 0 14).toNatClampNeg)).toNatClampNeg) d_M_clause_194 (by decide) rfl hi_103 rfl ?_
                        refine r_iload_n (i := 2) d_M_clause_195 rfl rfl ?_
                        refine r_if_eq (tgt := 250) d_M_clause_196 (by decide) (fun _ => ?_) (fun h => absurd hc_168 h)
                        refine r_aload_n (i := 0) d_M_clause_250 rfl rfl ?_
                        refine r_getR (b := 0) (r := 8) d_M_clause_251 fl_M_31 (by decide) rfl rfl rfl ?_
                        refine r_iload_n (i := 1) d_M_clause_254 rfl rfl ?_
                        refine r_aload_n (i := 0) d_M_clause_255 rfl rfl ?_
                        refine r_getR (b := 0) (r := 4) d_M_clause_256 fl_M_19 (by decide) rfl rfl rfl ?_
                        refine r_aload_n (i := 0) d_M_clause_259 rfl rfl ?_
                        refine r_getI (b := 0) (v := h79.1 0 14) d_M_clause_260 fl_M_103 (by decide) rfl rfl rfl ?_
                        obtain ⟨hi_263, H⟩ := H
                        refine r_iald (b := 4) (v := h79.2.1 4 (h79.1 0 14).toNatClampNeg) d_M_clause_263 (by decide) rfl hi_263 rfl ?_
                        refine r_iast (b := 8) (i := ((90 * (hp.1 0 14)) + (hp.2.1 5 (hp.1 0 14).toNatClampNeg)).toNatClampNeg) d_M_clause_264 (by decide) rfl hi_103 rfl ?_
                        refine r_aload_n (i := 0) d_M_clause_265 rfl rfl ?_
                        refine r_getR (b := 0) (r := 5) d_M_clause_266 fl_M_22 (by decide) rfl rfl rfl ?_
                        refine r_aload_n (i := 0) d_M_clause_269 rfl rfl ?_
                        refine r_getI (b := 0) (v := h79.1 0 14) d_M_clause_270 fl_M_103 (by decide) rfl rfl rfl ?_
                        refine r_dup2 d_M_clause_273 ?_
                        refine r_iald (b := 5) (v := h79.2.1 5 (h79.1 0 14).toNatClampNeg) d_M_clause_274 (by decide) rfl hi_263 rfl ?_
                        refine r_iconst d_M_clause_275 ic_1 ?_
                        refine r_iadd d_M_clause_276 ?_
                        refine r_iast (b := 5) (i := (h79.1 0 14).toNatClampNeg) d_M_clause_277 (by decide) rfl hi_263 rfl ?_
                        exact rV_ret d_M_clause_278 rfl H
                      · replace H := H.2 hc_168
                        refine r_aload_n (i := 0) d_M_clause_171 rfl rfl ?_
                        refine rc_VV (b := 0) (d' := 37) [] [] d_M_clause_172 ml_M_155 rfl rfl (by decide) (by decide) rfl rfl (Nat.le_of_ble_eq_true rfl) H ?_
                        intro h81 H
                        refine r_aload_n (i := 0) d_M_clause_175 rfl rfl ?_
                        refine rc_VV (b := 0) (d' := 65) [] [] d_M_clause_176 ml_M_158 rfl rfl (by decide) (by decide) rfl rfl (Nat.le_of_ble_eq_true rfl) H ?_
                        intro h82 H
                        refine r_aload_n (i := 0) d_M_clause_179 rfl rfl ?_
                        refine rc_VV (b := 0) (d' := 66) [] [] d_M_clause_180 ml_M_161 rfl rfl (by decide) (by decide) rfl rfl (Nat.le_of_ble_eq_true rfl) H ?_
                        intro h83 H
                        refine r_aload_n (i := 0) d_M_clause_183 rfl rfl ?_
                        refine r_getR (b := 0) (r := 7) d_M_clause_184 fl_M_28 (by decide) rfl rfl rfl ?_
                        refine r_iload_n (i := 1) d_M_clause_187 rfl rfl ?_
                        refine r_aload_n (i := 0) d_M_clause_188 rfl rfl ?_
                        refine r_getR (b := 0) (r := 6) d_M_clause_189 fl_M_25 (by decide) rfl rfl rfl ?_
                        refine r_iload_n (i := 1) d_M_clause_192 rfl rfl ?_
                        refine r_iald (b := 6) (v := h83.2.1 6 ((90 * (hp.1 0 14)) + (hp.2.1 5 (hp.1 0 14).toNatClampNeg)).toNatClampNeg) d_M_clause_193 (by decide) rfl hi_103 rfl ?_
                        refine r_iast (b := 7) (i := ((90 * (hp.1 0 14)) + (hp.2.1 5 (hp.1 0 14).toNatClampNeg)).toNatClampNeg) d_M_clause_194 (by decide) rfl hi_103 rfl ?_
                        refine r_iload_n (i := 2) d_M_clause_195 rfl rfl ?_
                        refine r_if_eq (tgt := 250) d_M_clause_196 (by decide) (fun h => absurd h hc_168) (fun _ => ?_)
                        refine r_aload_n (i := 0) d_M_clause_199 rfl rfl ?_
                        refine r_getI (b := 0) (v := h83.1 0 4) d_M_clause_200 fl_M_100 (by decide) rfl rfl rfl ?_
                        refine r_iconst d_M_clause_203 ic_m1 ?_
                        refine r_icmp_ne (tgt := 250) d_M_clause_204 (by decide) (fun hc_204 => ?_) (fun hc_204 => ?_)
                        · replace H := H.2 hc_204
                          refine r_aload_n (i := 0) d_M_clause_250 rfl rfl ?_
                          refine r_getR (b := 0) (r := 8) d_M_clause_251 fl_M_31 (by decide) rfl rfl rfl ?_
                          refine r_iload_n (i := 1) d_M_clause_254 rfl rfl ?_
                          refine r_aload_n (i := 0) d_M_clause_255 rfl rfl ?_
                          refine r_getR (b := 0) (r := 4) d_M_clause_256 fl_M_19 (by decide) rfl rfl rfl ?_
                          refine r_aload_n (i := 0) d_M_clause_259 rfl rfl ?_
                          refine r_getI (b := 0) (v := h83.1 0 14) d_M_clause_260 fl_M_103 (by decide) rfl rfl rfl ?_
                          obtain ⟨hi_263, H⟩ := H
                          refine r_iald (b := 4) (v := h83.2.1 4 (h83.1 0 14).toNatClampNeg) d_M_clause_263 (by decide) rfl hi_263 rfl ?_
                          refine r_iast (b := 8) (i := ((90 * (hp.1 0 14)) + (hp.2.1 5 (hp.1 0 14).toNatClampNeg)).toNatClampNeg) d_M_clause_264 (by decide) rfl hi_103 rfl ?_
                          refine r_aload_n (i := 0) d_M_clause_265 rfl rfl ?_
                          refine r_getR (b := 0) (r := 5) d_M_clause_266 fl_M_22 (by decide) rfl rfl rfl ?_
                          refine r_aload_n (i := 0) d_M_clause_269 rfl rfl ?_
                          refine r_getI (b := 0) (v := h83.1 0 14) d_M_clause_270 fl_M_103 (by decide) rfl rfl rfl ?_
                          refine r_dup2 d_M_clause_273 ?_
                          refine r_iald (b := 5) (v := h83.2.1 5 (h83.1 0 14).toNatClampNeg) d_M_clause_274 (by decide) rfl hi_263 rfl ?_
                          refine r_iconst d_M_clause_275 ic_1 ?_
                          refine r_iadd d_M_clause_276 ?_
                          refine r_iast (b := 5) (i := (h83.1 0 14).toNatClampNeg) d_M_clause_277 (by decide) rfl hi_263 rfl ?_
                          exact rV_ret d_M_clause_278 rfl H
                        · replace H := H.1 hc_204
                          refine r_aload_n (i := 0) d_M_clause_207 rfl rfl ?_
                          refine rc_VI (b := 0) (d' := 2) [] [] d_M_clause_208 ml_M_112 rfl rfl (by decide) (by decide) rfl rfl (Nat.le_of_ble_eq_true rfl) H ?_
                          intro r85 h84 H
                          refine r_bipush d_M_clause_211 bp_63 ?_
                          refine r_icmp_eq (tgt := 221) d_M_clause_213 (by decide) (fun hc_213 => ?_) (fun hc_213 => ?_)
                          · replace H := H.1 hc_213
                            refine r_aload_n (i := 0) d_M_clause_221 rfl rfl ?_
                            refine r_dupr d_M_clause_222 ?_
                            refine r_getI (b := 0) (v := h84.1 0 3) d_M_clause_223 fl_M_93 (by decide) rfl rfl rfl ?_
                            refine r_iconst d_M_clause_226 ic_1 ?_
                            refine r_iadd d_M_clause_227 ?_
                            refine r_putI (b := 0) d_M_clause_228 fp_M_93 ⟨rfl, rfl⟩ (by decide) rfl rfl ?_
                            refine r_aload_n (i := 0) d_M_clause_231 rfl rfl ?_
                            refine r_getR (b := 0) (r := 7) d_M_clause_232 fl_M_28 (by decide) rfl rfl rfl ?_
                            refine r_iload_n (i := 1) d_M_clause_235 rfl rfl ?_
                            refine r_aload_n (i := 0) d_M_clause_236 rfl rfl ?_
                            refine r_getR (b := 0) (r := 4) d_M_clause_237 fl_M_19 (by decide) rfl rfl rfl ?_
                            refine r_aload_n (i := 0) d_M_clause_240 rfl rfl ?_
                            refine r_getI (b := 0) (v := h84.1 0 14) d_M_clause_241 fl_M_103 (by decide) rfl rfl rfl ?_
                            obtain ⟨hi_244, H⟩ := H
                            refine r_iald (b := 4) (v := h84.2.1 4 (h84.1 0 14).toNatClampNeg) d_M_clause_244 (by decide) rfl hi_244 rfl ?_
                            refine r_iast (b := 7) (i := ((90 * (hp.1 0 14)) + (hp.2.1 5 (hp.1 0 14).toNatClampNeg)).toNatClampNeg) d_M_clause_245 (by decide) rfl hi_103 rfl ?_
                            refine r_aload_n (i := 0) d_M_clause_246 rfl rfl ?_
                            refine rc_VV (b := 0) (d' := 36) [] [] d_M_clause_247 ml_M_133 rfl rfl (by decide) (by decide) rfl rfl (Nat.le_of_ble_eq_true rfl) H ?_
                            intro h86 H
                            refine r_aload_n (i := 0) d_M_clause_250 rfl rfl ?_
                            refine r_getR (b := 0) (r := 8) d_M_clause_251 fl_M_31 (by decide) rfl rfl rfl ?_
                            refine r_iload_n (i := 1) d_M_clause_254 rfl rfl ?_
                            refine r_aload_n (i := 0) d_M_clause_255 rfl rfl ?_
                            refine r_getR (b := 0) (r := 4) d_M_clause_256 fl_M_19 (by decide) rfl rfl rfl ?_
                            refine r_aload_n (i := 0) d_M_clause_259 rfl rfl ?_
                            refine r_getI (b := 0) (v := h86.1 0 14) d_M_clause_260 fl_M_103 (by decide) rfl rfl rfl ?_
                            obtain ⟨hi_263, H⟩ := H
                            refine r_iald (b := 4) (v := h86.2.1 4 (h86.1 0 14).toNatClampNeg) d_M_clause_263 (by decide) rfl hi_263 rfl ?_
                            refine r_iast (b := 8) (i := ((90 * (hp.1 0 14)) + (hp.2.1 5 (hp.1 0 14).toNatClampNeg)).toNatClampNeg) d_M_clause_264 (by decide) rfl hi_103 rfl ?_
                            refine r_aload_n (i := 0) d_M_clause_265 rfl rfl ?_
                            refine r_getR (b := 0) (r := 5) d_M_clause_266 fl_M_22 (by decide) rfl rfl rfl ?_
                            refine r_aload_n (i := 0) d_M_clause_269 rfl rfl ?_
                            refine r_getI (b := 0) (v := h86.1 0 14) d_M_clause_270 fl_M_103 (by decide) rfl rfl rfl ?_
                            refine r_dup2 d_M_clause_273 ?_
                            refine r_iald (b := 5) (v := h86.2.1 5 (h86.1 0 14).toNatClampNeg) d_M_clause_274 (by decide) rfl hi_263 rfl ?_
                            refine r_iconst d_M_clause_275 ic_1 ?_
                            refine r_iadd d_M_clause_276 ?_
                            refine r_iast (b := 5) (i := (h86.1 0 14).toNatClampNeg) d_M_clause_277 (by decide) rfl hi_263 rfl ?_
                            exact rV_ret d_M_clause_278 rfl H
                          · replace H := H.2 hc_213
                            refine r_aload_n (i := 0) d_M_clause_216 rfl rfl ?_
                            refine rk_VV (b := 0) (d' := 1) [] [] d_M_clause_217 ml_M_109 rfl rfl (by decide) (by decide) rfl rfl (Nat.le_of_ble_eq_true rfl) (s_M_bad  ?_)
                            exact rV_ret d_M_clause_220 rfl H
                    refine rk_SI (d' := 1) [.int r80] [] d_M_clause_155 ml_M_146 rfl rfl (by decide) (Nat.le_of_ble_eq_true rfl) (s_M_isSign r80 ?_)
                    refine r_if_eq (tgt := 165) d_M_clause_158 (by decide) (fun hc_158 => ?_) (fun hc_158 => ?_)
                    · refine r_iconst d_M_clause_165 ic_0 ?_
                      exact J158 _ (((if_pos hc_158).trans rfl)).symm
                    · refine r_iconst d_M_clause_161 ic_1 ?_
                      refine r_goto (tgt := 166) d_M_clause_162 (by decide) ?_
                      exact J158 _ (((if_neg hc_158).trans rfl)).symm
                · replace H := H.2 hc_129
                  refine r_aload_n (i := 0) d_M_clause_132 rfl rfl ?_
                  refine rc_VV (b := 0) (d' := 67) [] [] d_M_clause_133 ml_M_152 rfl rfl (by decide) (by decide) rfl rfl (Nat.le_of_ble_eq_true rfl) H ?_
                  intro h87 H
                  refine r_goto (tgt := 183) d_M_clause_136 (by decide) ?_
                  refine r_aload_n (i := 0) d_M_clause_183 rfl rfl ?_
                  refine r_getR (b := 0) (r := 7) d_M_clause_184 fl_M_28 (by decide) rfl rfl rfl ?_
                  refine r_iload_n (i := 1) d_M_clause_187 rfl rfl ?_
                  refine r_aload_n (i := 0) d_M_clause_188 rfl rfl ?_
                  refine r_getR (b := 0) (r := 6) d_M_clause_189 fl_M_25 (by decide) rfl rfl rfl ?_
                  refine r_iload_n (i := 1) d_M_clause_192 rfl rfl ?_
                  refine r_iald (b := 6) (v := h87.2.1 6 ((90 * (hp.1 0 14)) + (hp.2.1 5 (hp.1 0 14).toNatClampNeg)).toNatClampNeg) d_M_clause_193 (by decide) rfl hi_103 rfl ?_
                  refine r_iast (b := 7) (i := ((90 * (hp.1 0 14)) + (hp.2.1 5 (hp.1 0 14).toNatClampNeg)).toNatClampNeg) d_M_clause_194 (by decide) rfl hi_103 rfl ?_
                  refine r_iload_n (i := 2) d_M_clause_195 rfl rfl ?_
                  refine r_if_eq (tgt := 250) d_M_clause_196 (by decide) (fun h => absurd h hc_129) (fun _ => ?_)
                  refine r_aload_n (i := 0) d_M_clause_199 rfl rfl ?_
                  refine r_getI (b := 0) (v := h87.1 0 4) d_M_clause_200 fl_M_100 (by decide) rfl rfl rfl ?_
                  refine r_iconst d_M_clause_203 ic_m1 ?_
                  refine r_icmp_ne (tgt := 250) d_M_clause_204 (by decide) (fun hc_204 => ?_) (fun hc_204 => ?_)
                  · replace H := H.2 hc_204
                    refine r_aload_n (i := 0) d_M_clause_250 rfl rfl ?_
                    refine r_getR (b := 0) (r := 8) d_M_clause_251 fl_M_31 (by decide) rfl rfl rfl ?_
                    refine r_iload_n (i := 1) d_M_clause_254 rfl rfl ?_
                    refine r_aload_n (i := 0) d_M_clause_255 rfl rfl ?_
                    refine r_getR (b := 0) (r := 4) d_M_clause_256 fl_M_19 (by decide) rfl rfl rfl ?_
                    refine r_aload_n (i := 0) d_M_clause_259 rfl rfl ?_
                    refine r_getI (b := 0) (v := h87.1 0 14) d_M_clause_260 fl_M_103 (by decide) rfl rfl rfl ?_
                    obtain ⟨hi_263, H⟩ := H
                    refine r_iald (b := 4) (v := h87.2.1 4 (h87.1 0 14).toNatClampNeg) d_M_clause_263 (by decide) rfl hi_263 rfl ?_
                    refine r_iast (b := 8) (i := ((90 * (hp.1 0 14)) + (hp.2.1 5 (hp.1 0 14).toNatClampNeg)).toNatClampNeg) d_M_clause_264 (by decide) rfl hi_103 rfl ?_
                    refine r_aload_n (i := 0) d_M_clause_265 rfl rfl ?_
                    refine r_getR (b := 0) (r := 5) d_M_clause_266 fl_M_22 (by decide) rfl rfl rfl ?_
                    refine r_aload_n (i := 0) d_M_clause_269 rfl rfl ?_
                    refine r_getI (b := 0) (v := h87.1 0 14) d_M_clause_270 fl_M_103 (by decide) rfl rfl rfl ?_
                    refine r_dup2 d_M_clause_273 ?_
                    refine r_iald (b := 5) (v := h87.2.1 5 (h87.1 0 14).toNatClampNeg) d_M_clause_274 (by decide) rfl hi_263 rfl ?_
                    refine r_iconst d_M_clause_275 ic_1 ?_
                    refine r_iadd d_M_clause_276 ?_
                    refine r_iast (b := 5) (i := (h87.1 0 14).toNatClampNeg) d_M_clause_277 (by decide) rfl hi_263 rfl ?_
                    exact rV_ret d_M_clause_278 rfl H
                  · replace H := H.1 hc_204
                    refine r_aload_n (i := 0) d_M_clause_207 rfl rfl ?_
                    refine rc_VI (b := 0) (d' := 2) [] [] d_M_clause_208 ml_M_112 rfl rfl (by decide) (by decide) rfl rfl (Nat.le_of_ble_eq_true rfl) H ?_
                    intro r89 h88 H
                    refine r_bipush d_M_clause_211 bp_63 ?_
                    refine r_icmp_eq (tgt := 221) d_M_clause_213 (by decide) (fun hc_213 => ?_) (fun hc_213 => ?_)
                    · replace H := H.1 hc_213
                      refine r_aload_n (i := 0) d_M_clause_221 rfl rfl ?_
                      refine r_dupr d_M_clause_222 ?_
                      refine r_getI (b := 0) (v := h88.1 0 3) d_M_clause_223 fl_M_93 (by decide) rfl rfl rfl ?_
                      refine r_iconst d_M_clause_226 ic_1 ?_
                      refine r_iadd d_M_clause_227 ?_
                      refine r_putI (b := 0) d_M_clause_228 fp_M_93 ⟨rfl, rfl⟩ (by decide) rfl rfl ?_
                      refine r_aload_n (i := 0) d_M_clause_231 rfl rfl ?_
                      refine r_getR (b := 0) (r := 7) d_M_clause_232 fl_M_28 (by decide) rfl rfl rfl ?_
                      refine r_iload_n (i := 1) d_M_clause_235 rfl rfl ?_
                      refine r_aload_n (i := 0) d_M_clause_236 rfl rfl ?_
                      refine r_getR (b := 0) (r := 4) d_M_clause_237 fl_M_19 (by decide) rfl rfl rfl ?_
                      refine r_aload_n (i := 0) d_M_clause_240 rfl rfl ?_
                      refine r_getI (b := 0) (v := h88.1 0 14) d_M_clause_241 fl_M_103 (by decide) rfl rfl rfl ?_
                      obtain ⟨hi_244, H⟩ := H
                      refine r_iald (b := 4) (v := h88.2.1 4 (h88.1 0 14).toNatClampNeg) d_M_clause_244 (by decide) rfl hi_244 rfl ?_
                      refine r_iast (b := 7) (i := ((90 * (hp.1 0 14)) + (hp.2.1 5 (hp.1 0 14).toNatClampNeg)).toNatClampNeg) d_M_clause_245 (by decide) rfl hi_103 rfl ?_
                      refine r_aload_n (i := 0) d_M_clause_246 rfl rfl ?_
                      refine rc_VV (b := 0) (d' := 36) [] [] d_M_clause_247 ml_M_133 rfl rfl (by decide) (by decide) rfl rfl (Nat.le_of_ble_eq_true rfl) H ?_
                      intro h90 H
                      refine r_aload_n (i := 0) d_M_clause_250 rfl rfl ?_
                      refine r_getR (b := 0) (r := 8) d_M_clause_251 fl_M_31 (by decide) rfl rfl rfl ?_
                      refine r_iload_n (i := 1) d_M_clause_254 rfl rfl ?_
                      refine r_aload_n (i := 0) d_M_clause_255 rfl rfl ?_
                      refine r_getR (b := 0) (r := 4) d_M_clause_256 fl_M_19 (by decide) rfl rfl rfl ?_
                      refine r_aload_n (i := 0) d_M_clause_259 rfl rfl ?_
                      refine r_getI (b := 0) (v := h90.1 0 14) d_M_clause_260 fl_M_103 (by decide) rfl rfl rfl ?_
                      obtain ⟨hi_263, H⟩ := H
                      refine r_iald (b := 4) (v := h90.2.1 4 (h90.1 0 14).toNatClampNeg) d_M_clause_263 (by decide) rfl hi_263 rfl ?_
                      refine r_iast (b := 8) (i := ((90 * (hp.1 0 14)) + (hp.2.1 5 (hp.1 0 14).toNatClampNeg)).toNatClampNeg) d_M_clause_264 (by decide) rfl hi_103 rfl ?_
                      refine r_aload_n (i := 0) d_M_clause_265 rfl rfl ?_
                      refine r_getR (b := 0) (r := 5) d_M_clause_266 fl_M_22 (by decide) rfl rfl rfl ?_
                      refine r_aload_n (i := 0) d_M_clause_269 rfl rfl ?_
                      refine r_getI (b := 0) (v := h90.1 0 14) d_M_clause_270 fl_M_103 (by decide) rfl rfl rfl ?_
                      refine r_dup2 d_M_clause_273 ?_
                      refine r_iald (b := 5) (v := h90.2.1 5 (h90.1 0 14).toNatClampNeg) d_M_clause_274 (by decide) rfl hi_263 rfl ?_
                      refine r_iconst d_M_clause_275 ic_1 ?_
                      refine r_iadd d_M_clause_276 ?_
                      refine r_iast (b := 5) (i := (h90.1 0 14).toNatClampNeg) d_M_clause_277 (by decide) rfl hi_263 rfl ?_
                      exact rV_ret d_M_clause_278 rfl H
                    · replace H := H.2 hc_213
                      refine r_aload_n (i := 0) d_M_clause_216 rfl rfl ?_
                      refine rk_VV (b := 0) (d' := 1) [] [] d_M_clause_217 ml_M_109 rfl rfl (by decide) (by decide) rfl rfl (Nat.le_of_ble_eq_true rfl) (s_M_bad  ?_)
                      exact rV_ret d_M_clause_220 rfl H
              refine r_bipush d_M_clause_117 bp_40 ?_
              refine r_icmp_ne (tgt := 126) d_M_clause_119 (by decide) (fun hc_119 => ?_) (fun hc_119 => ?_)
              · refine r_iconst d_M_clause_126 ic_0 ?_
                exact J119 _ (((if_neg hc_119).trans rfl)).symm
              · refine r_iconst d_M_clause_122 ic_1 ?_
                refine r_goto (tgt := 127) d_M_clause_123 (by decide) ?_
                exact J119 _ (((if_pos hc_119).trans rfl)).symm
          · replace H := H.2 hc_85
            exact rV_ret d_M_clause_88 rfl H
set_option maxHeartbeats 4000000 in
set_option maxRecDepth 20000 in
theorem w_M_atEnd {G : rx_Gh} {hp : rx_Hp} {F : Int32 → rx_Hp → Prop}  (H : ((hp.1 0 4) = (-1) → Ev wM G 2 q_M_look [.ref 0] hp (rI fun r2 h1 => (r2 = (-1) → F (h1.1 0 4) h1) ∧ (¬ r2 = (-1) → F ((g_M_bad h1).1 0 4) (g_M_bad h1)))) ∧ (¬ (hp.1 0 4) = (-1) → F (hp.1 0 4) hp)) : Ev wM G 3 q_M_atEnd [.ref 0] hp (rI F) := by
  refine ev_of rfl (Nat.le_of_ble_eq_true rfl) rfl ?_
  show Rn wM G 3 q_M_atEnd 0 [some (.ref 0)] [] hp (rI F)
  refine r_aload_n (i := 0) d_M_atEnd_0 rfl rfl ?_
  refine r_getI (b := 0) (v := hp.1 0 4) d_M_atEnd_1 fl_M_100 (by decide) rfl rfl rfl ?_
  refine r_iconst d_M_atEnd_4 ic_m1 ?_
  refine r_icmp_ne (tgt := 20) d_M_atEnd_5 (by decide) (fun hc_5 => ?_) (fun hc_5 => ?_)
  · replace H := H.2 hc_5
    refine r_aload_n (i := 0) d_M_atEnd_20 rfl rfl ?_
    refine r_getI (b := 0) (v := hp.1 0 4) d_M_atEnd_21 fl_M_100 (by decide) rfl rfl rfl ?_
    exact rI_ret d_M_atEnd_24 rfl H
  · replace H := H.1 hc_5
    refine r_aload_n (i := 0) d_M_atEnd_8 rfl rfl ?_
    refine rc_VI (b := 0) (d' := 2) [] [] d_M_atEnd_9 ml_M_112 rfl rfl (by decide) (by decide) rfl rfl (Nat.le_of_ble_eq_true rfl) H ?_
    intro r2 h1 H
    refine r_iconst d_M_atEnd_12 ic_m1 ?_
    refine r_icmp_eq (tgt := 20) d_M_atEnd_13 (by decide) (fun hc_13 => ?_) (fun hc_13 => ?_)
    · replace H := H.1 hc_13
      refine r_aload_n (i := 0) d_M_atEnd_20 rfl rfl ?_
      refine r_getI (b := 0) (v := h1.1 0 4) d_M_atEnd_21 fl_M_100 (by decide) rfl rfl rfl ?_
      exact rI_ret d_M_atEnd_24 rfl H
    · replace H := H.2 hc_13
      refine r_aload_n (i := 0) d_M_atEnd_16 rfl rfl ?_
      refine rk_VV (b := 0) (d' := 1) [] [] d_M_atEnd_17 ml_M_109 rfl rfl (by decide) (by decide) rfl rfl (Nat.le_of_ble_eq_true rfl) (s_M_bad  ?_)
      refine r_aload_n (i := 0) d_M_atEnd_20 rfl rfl ?_
      refine r_getI (b := 0) (v := (g_M_bad h1).1 0 4) d_M_atEnd_21 fl_M_100 (by decide) rfl rfl rfl ?_
      exact rI_ret d_M_atEnd_24 rfl H
set_option maxHeartbeats 4000000 in
set_option maxRecDepth 20000 in
theorem w_M_readLaw {G : rx_Gh} {hp : rx_Hp} {F : Int32 → rx_Hp → Prop} (a1 : Int32) (H : p_M_open a1 ∧ (Ev wM G 75 q_M_clause [.ref 0] (g_M_open a1 hp) (rV fun h1 => ((h1.1 0 4) = (-1) → Ev wM G 2 q_M_look [.ref 0] h1 (rI fun r3 h2 => (r3 = 59 → Ev wM G 75 q_M_clause [.ref 0] (rx_pf h2 0 3 ((h2.1 0 3) + 1)) (rV fun h4 => Rn wM G 76 q_M_readLaw 9 [some (.ref 0), none] [] h4 (rI F))) ∧ (¬ r3 = 59 → Ev wM G 3 q_M_atEnd [.ref 0] h2 (rI fun r6 h5 => F r6 h5)))) ∧ (¬ (h1.1 0 4) = (-1) → Ev wM G 3 q_M_atEnd [.ref 0] h1 (rI fun r8 h7 => F r8 h7))))) : Ev wM G 76 q_M_readLaw [.ref 0, .int a1] hp (rI F) := by
  refine ev_of rfl (Nat.le_of_ble_eq_true rfl) rfl ?_
  show Rn wM G 76 q_M_readLaw 0 [some (.ref 0), some (.int a1)] [] hp (rI F)
  refine r_aload_n (i := 0) d_M_readLaw_0 rfl rfl ?_
  refine r_iload_n (i := 1) d_M_readLaw_1 rfl rfl ?_
  obtain ⟨hp_2_0, H⟩ := H
  refine rk_VV (b := 0) (d' := 1) [.int a1] [] d_M_readLaw_2 ml_M_164 rfl rfl (by decide) (by decide) rfl rfl (Nat.le_of_ble_eq_true rfl) (s_M_open a1 hp_2_0 ?_)
  refine r_aload_n (i := 0) d_M_readLaw_5 rfl rfl ?_
  refine rc_VV (b := 0) (d' := 75) [] [] d_M_readLaw_6 ml_M_167 rfl rfl (by decide) (by decide) rfl rfl (Nat.le_of_ble_eq_true rfl) H ?_
  intro h1 H
  refine r_aload_n (i := 0) d_M_readLaw_9 rfl rfl ?_
  refine r_getI (b := 0) (v := h1.1 0 4) d_M_readLaw_10 fl_M_100 (by decide) rfl rfl rfl ?_
  refine r_iconst d_M_readLaw_13 ic_m1 ?_
  refine r_icmp_ne (tgt := 43) d_M_readLaw_14 (by decide) (fun hc_14 => ?_) (fun hc_14 => ?_)
  · replace H := H.2 hc_14
    refine r_aload_n (i := 0) d_M_readLaw_43 rfl rfl ?_
    refine rc_VI (b := 0) (d' := 3) [] [] d_M_readLaw_44 ml_M_170 rfl rfl (by decide) (by decide) rfl rfl (Nat.le_of_ble_eq_true rfl) H ?_
    intro r8 h7 H
    exact rI_ret d_M_readLaw_47 rfl H
  · replace H := H.1 hc_14
    refine r_aload_n (i := 0) d_M_readLaw_17 rfl rfl ?_
    refine rc_VI (b := 0) (d' := 2) [] [] d_M_readLaw_18 ml_M_112 rfl rfl (by decide) (by decide) rfl rfl (Nat.le_of_ble_eq_true rfl) H ?_
    intro r3 h2 H
    refine r_bipush d_M_readLaw_21 bp_59 ?_
    refine r_icmp_ne (tgt := 43) d_M_readLaw_23 (by decide) (fun hc_23 => ?_) (fun hc_23 => ?_)
    · replace H := H.2 hc_23
      refine r_aload_n (i := 0) d_M_readLaw_43 rfl rfl ?_
      refine rc_VI (b := 0) (d' := 3) [] [] d_M_readLaw_44 ml_M_170 rfl rfl (by decide) (by decide) rfl rfl (Nat.le_of_ble_eq_true rfl) H ?_
      intro r6 h5 H
      exact rI_ret d_M_readLaw_47 rfl H
    · replace H := H.1 hc_23
      refine r_aload_n (i := 0) d_M_readLaw_26 rfl rfl ?_
      refine r_dupr d_M_readLaw_27 ?_
      refine r_getI (b := 0) (v := h2.1 0 3) d_M_readLaw_28 fl_M_93 (by decide) rfl rfl rfl ?_
      refine r_iconst d_M_readLaw_31 ic_1 ?_
      refine r_iadd d_M_readLaw_32 ?_
      refine r_putI (b := 0) d_M_readLaw_33 fp_M_93 ⟨rfl, rfl⟩ (by decide) rfl rfl ?_
      refine r_aload_n (i := 0) d_M_readLaw_36 rfl rfl ?_
      refine rc_VV (b := 0) (d' := 75) [] [] d_M_readLaw_37 ml_M_167 rfl rfl (by decide) (by decide) rfl rfl (Nat.le_of_ble_eq_true rfl) H ?_
      intro h4 H
      refine r_goto (tgt := 9) d_M_readLaw_40 (by decide) ?_
      exact rx_fgt [false, true] H
set_option maxHeartbeats 4000000 in
set_option maxRecDepth 20000 in
theorem w_M_readLaw_9 {G : rx_Gh} {hp : rx_Hp} {F : Int32 → rx_Hp → Prop}  (H : ((hp.1 0 4) = (-1) → Ev wM G 2 q_M_look [.ref 0] hp (rI fun r2 h1 => (r2 = 59 → Ev wM G 75 q_M_clause [.ref 0] (rx_pf h1 0 3 ((h1.1 0 3) + 1)) (rV fun h3 => Rn wM G 76 q_M_readLaw 9 [some (.ref 0), none] [] h3 (rI F))) ∧ (¬ r2 = 59 → Ev wM G 3 q_M_atEnd [.ref 0] h1 (rI fun r5 h4 => F r5 h4)))) ∧ (¬ (hp.1 0 4) = (-1) → Ev wM G 3 q_M_atEnd [.ref 0] hp (rI fun r7 h6 => F r7 h6))) : Rn wM G 76 q_M_readLaw 9 [some (.ref 0), none] [] hp (rI F) := by
  refine r_aload_n (i := 0) d_M_readLaw_9 rfl rfl ?_
  refine r_getI (b := 0) (v := hp.1 0 4) d_M_readLaw_10 fl_M_100 (by decide) rfl rfl rfl ?_
  refine r_iconst d_M_readLaw_13 ic_m1 ?_
  refine r_icmp_ne (tgt := 43) d_M_readLaw_14 (by decide) (fun hc_14 => ?_) (fun hc_14 => ?_)
  · replace H := H.2 hc_14
    refine r_aload_n (i := 0) d_M_readLaw_43 rfl rfl ?_
    refine rc_VI (b := 0) (d' := 3) [] [] d_M_readLaw_44 ml_M_170 rfl rfl (by decide) (by decide) rfl rfl (Nat.le_of_ble_eq_true rfl) H ?_
    intro r7 h6 H
    exact rI_ret d_M_readLaw_47 rfl H
  · replace H := H.1 hc_14
    refine r_aload_n (i := 0) d_M_readLaw_17 rfl rfl ?_
    refine rc_VI (b := 0) (d' := 2) [] [] d_M_readLaw_18 ml_M_112 rfl rfl (by decide) (by decide) rfl rfl (Nat.le_of_ble_eq_true rfl) H ?_
    intro r2 h1 H
    refine r_bipush d_M_readLaw_21 bp_59 ?_
    refine r_icmp_ne (tgt := 43) d_M_readLaw_23 (by decide) (fun hc_23 => ?_) (fun hc_23 => ?_)
    · replace H := H.2 hc_23
      refine r_aload_n (i := 0) d_M_readLaw_43 rfl rfl ?_
      refine rc_VI (b := 0) (d' := 3) [] [] d_M_readLaw_44 ml_M_170 rfl rfl (by decide) (by decide) rfl rfl (Nat.le_of_ble_eq_true rfl) H ?_
      intro r5 h4 H
      exact rI_ret d_M_readLaw_47 rfl H
    · replace H := H.1 hc_23
      refine r_aload_n (i := 0) d_M_readLaw_26 rfl rfl ?_
      refine r_dupr d_M_readLaw_27 ?_
      refine r_getI (b := 0) (v := h1.1 0 3) d_M_readLaw_28 fl_M_93 (by decide) rfl rfl rfl ?_
      refine r_iconst d_M_readLaw_31 ic_1 ?_
      refine r_iadd d_M_readLaw_32 ?_
      refine r_putI (b := 0) d_M_readLaw_33 fp_M_93 ⟨rfl, rfl⟩ (by decide) rfl rfl ?_
      refine r_aload_n (i := 0) d_M_readLaw_36 rfl rfl ?_
      refine rc_VV (b := 0) (d' := 75) [] [] d_M_readLaw_37 ml_M_167 rfl rfl (by decide) (by decide) rfl rfl (Nat.le_of_ble_eq_true rfl) H ?_
      intro h3 H
      refine r_goto (tgt := 9) d_M_readLaw_40 (by decide) ?_
      exact H

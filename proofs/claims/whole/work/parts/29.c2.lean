theorem d_GR_hits_0 : decode q_GR_hits.2.1 0 = .ok (.aload_n 0, 1) := by decide +kernel
theorem d_GR_hits_1 : decode q_GR_hits.2.1 1 = .ok (.getfield 19, 3) := by decide +kernel
theorem d_GR_hits_4 : decode q_GR_hits.2.1 4 = .ok (.iload_n 1, 1) := by decide +kernel
theorem d_GR_hits_5 : decode q_GR_hits.2.1 5 = .ok (.invokevirtual 144, 3) := by decide +kernel
theorem d_GR_hits_8 : decode q_GR_hits.2.1 8 = .ok (.ifCond .eq 34, 3) := by decide +kernel
theorem d_GR_hits_42 : decode q_GR_hits.2.1 42 = .ok (.ldc 196, 2) := by decide +kernel
theorem d_GR_hits_44 : decode q_GR_hits.2.1 44 = .ok (.ireturn, 1) := by decide +kernel
theorem d_GR_hits_11 : decode q_GR_hits.2.1 11 = .ok (.aload_n 0, 1) := by decide +kernel
theorem d_GR_hits_12 : decode q_GR_hits.2.1 12 = .ok (.getfield 19, 3) := by decide +kernel
theorem d_GR_hits_15 : decode q_GR_hits.2.1 15 = .ok (.iload 4, 2) := by decide +kernel
theorem d_GR_hits_17 : decode q_GR_hits.2.1 17 = .ok (.invokevirtual 144, 3) := by decide +kernel
theorem d_GR_hits_20 : decode q_GR_hits.2.1 20 = .ok (.ifCond .eq 22, 3) := by decide +kernel
theorem d_GR_hits_23 : decode q_GR_hits.2.1 23 = .ok (.iload_n 2, 1) := by decide +kernel
theorem d_GR_hits_24 : decode q_GR_hits.2.1 24 = .ok (.iload_n 3, 1) := by decide +kernel
theorem d_GR_hits_25 : decode q_GR_hits.2.1 25 = .ok (.invokestatic 275, 3) := by decide +kernel
theorem ml_GR_275 : rx_CS "GlassRoom" 275 q_GR_isWay 2 := ⟨⟨(rx_s4 111 rfl rfl), (rx_s4 112 rfl rfl)⟩, ⟨(rx_s1 1 rfl rfl), q_GR_isWay_k, ⟨by decide, by decide, by decide +kernel⟩, by decide⟩⟩
theorem d_GR_hits_28 : decode q_GR_hits.2.1 28 = .ok (.ifCond .eq 14, 3) := by decide +kernel
theorem d_GR_hits_31 : decode q_GR_hits.2.1 31 = .ok (.iload 5, 2) := by decide +kernel
theorem d_GR_hits_33 : decode q_GR_hits.2.1 33 = .ok (.ifCond .lt 9, 3) := by decide +kernel
theorem d_GR_hits_36 : decode q_GR_hits.2.1 36 = .ok (.iload 5, 2) := by decide +kernel
theorem d_GR_hits_38 : decode q_GR_hits.2.1 38 = .ok (.iconst 2, 1) := by decide +kernel
theorem d_GR_hits_39 : decode q_GR_hits.2.1 39 = .ok (.if_icmp .le 6, 3) := by decide +kernel
theorem d_GR_hits_45 : decode q_GR_hits.2.1 45 = .ok (.aload_n 0, 1) := by decide +kernel
theorem d_GR_hits_46 : decode q_GR_hits.2.1 46 = .ok (.getfield 82, 3) := by decide +kernel
theorem fl_GR_82 : rx_F "GlassRoom" 82 11 11 := ⟨(RX11, TX11, 17), rfl, by decide, (rx_s2 110 rfl rfl), rx_T11⟩
theorem d_GR_hits_49 : decode q_GR_hits.2.1 49 = .ok (.iload_n 1, 1) := by decide +kernel
theorem d_GR_hits_50 : decode q_GR_hits.2.1 50 = .ok (.iload_n 2, 1) := by decide +kernel
theorem d_GR_hits_51 : decode q_GR_hits.2.1 51 = .ok (.iload_n 3, 1) := by decide +kernel
theorem d_GR_hits_52 : decode q_GR_hits.2.1 52 = .ok (.iload 4, 2) := by decide +kernel
theorem d_GR_hits_54 : decode q_GR_hits.2.1 54 = .ok (.invokevirtual 278, 3) := by decide +kernel
theorem ml_GR_278 : rx_CV "GlassRoom" 278 q_Ba_findFirst 4 := ⟨⟨(rx_s4 114 rfl rfl), (rx_s4 115 rfl rfl), (rx_s4 116 rfl rfl)⟩, ⟨(rx_s1 10 rfl rfl), q_Ba_findFirst_k, ⟨by decide, by decide, by decide +kernel⟩, by decide⟩⟩
theorem d_GR_hits_57 : decode q_GR_hits.2.1 57 = .ok (.ifCond .ne 6, 3) := by decide +kernel
theorem d_GR_hits_60 : decode q_GR_hits.2.1 60 = .ok (.ldc 196, 2) := by decide +kernel
theorem d_GR_hits_62 : decode q_GR_hits.2.1 62 = .ok (.ireturn, 1) := by decide +kernel
theorem d_GR_hits_63 : decode q_GR_hits.2.1 63 = .ok (.iload 5, 2) := by decide +kernel
theorem d_GR_hits_65 : decode q_GR_hits.2.1 65 = .ok (.ifCond .ne 21, 3) := by decide +kernel
theorem d_GR_hits_68 : decode q_GR_hits.2.1 68 = .ok (.aload_n 0, 1) := by decide +kernel
theorem d_GR_hits_69 : decode q_GR_hits.2.1 69 = .ok (.getfield 82, 3) := by decide +kernel
theorem d_GR_hits_72 : decode q_GR_hits.2.1 72 = .ok (.getfield 282, 3) := by decide +kernel
theorem fl_GR_282 : rx_F "GlassRoom" 282 1 2 := ⟨(RX1, TX1, 4), rfl, by decide, (rx_s2 49 rfl rfl), rx_T1⟩
theorem d_GR_hits_75 : decode q_GR_hits.2.1 75 = .ok (.aload_n 0, 1) := by decide +kernel
theorem d_GR_hits_76 : decode q_GR_hits.2.1 76 = .ok (.getfield 82, 3) := by decide +kernel
theorem d_GR_hits_79 : decode q_GR_hits.2.1 79 = .ok (.getfield 285, 3) := by decide +kernel
theorem fl_GR_285 : rx_F "GlassRoom" 285 1 3 := ⟨(RX1, TX1, 4), rfl, by decide, (rx_s2 51 rfl rfl), rx_T1⟩
theorem d_GR_hits_82 : decode q_GR_hits.2.1 82 = .ok (.invokestatic 210, 3) := by decide +kernel
theorem d_GR_hits_85 : decode q_GR_hits.2.1 85 = .ok (.ireturn, 1) := by decide +kernel
theorem d_GR_hits_86 : decode q_GR_hits.2.1 86 = .ok (.iload 5, 2) := by decide +kernel
theorem d_GR_hits_88 : decode q_GR_hits.2.1 88 = .ok (.iconst 1, 1) := by decide +kernel
theorem d_GR_hits_89 : decode q_GR_hits.2.1 89 = .ok (.if_icmp .ne 13, 3) := by decide +kernel
theorem d_GR_hits_92 : decode q_GR_hits.2.1 92 = .ok (.aload_n 0, 1) := by decide +kernel
theorem d_GR_hits_93 : decode q_GR_hits.2.1 93 = .ok (.getfield 82, 3) := by decide +kernel
theorem d_GR_hits_96 : decode q_GR_hits.2.1 96 = .ok (.getfield 282, 3) := by decide +kernel
theorem d_GR_hits_99 : decode q_GR_hits.2.1 99 = .ok (.goto 10, 3) := by decide +kernel
theorem d_GR_hits_102 : decode q_GR_hits.2.1 102 = .ok (.aload_n 0, 1) := by decide +kernel
theorem d_GR_hits_103 : decode q_GR_hits.2.1 103 = .ok (.getfield 82, 3) := by decide +kernel
theorem d_GR_hits_106 : decode q_GR_hits.2.1 106 = .ok (.getfield 285, 3) := by decide +kernel
theorem d_GR_hits_109 : decode q_GR_hits.2.1 109 = .ok (.ireturn, 1) := by decide +kernel
set_option maxHeartbeats 4000000 in
set_option maxRecDepth 20000 in
theorem w_GR_hits {G : rx_Gh} {hp : rx_Hp} {F : Int32 → rx_Hp → Prop} (a1 : Int32) (a2 : Int32) (a3 : Int32) (a4 : Int32) (a5 : Int32) (H : ((f_Ha_has a1 hp) = 0 → F (-100000000) hp) ∧ (¬ (f_Ha_has a1 hp) = 0 → ((f_Ha_has a4 hp) = 0 → F (-100000000) hp) ∧ (¬ (f_Ha_has a4 hp) = 0 → ((f_GR_isWay a2 a3) = 0 → F (-100000000) hp) ∧ (¬ (f_GR_isWay a2 a3) = 0 → (a5 < 0 → F (-100000000) hp) ∧ (¬ a5 < 0 → (a5 ≤ 2 → Ev wC G 3 q_Ba_findFirst [.ref 44, .int a1, .int a2, .int a3, .int a4] hp (rI fun r2 h1 => (r2 = 0 → F (-100000000) h1) ∧ (¬ r2 = 0 → (a5 = 0 → F (f_GR_glasses (h1.1 44 2) (h1.1 44 3)) h1) ∧ (¬ a5 = 0 → F ((if a5 = 1 then (h1.1 44 2) else (h1.1 44 3)) : Int32) h1)))) ∧ (¬ a5 ≤ 2 → F (-100000000) hp)))))) : Ev wC G 4 q_GR_hits [.ref 0, .int a1, .int a2, .int a3, .int a4, .int a5] hp (rI F) := by
  refine ev_of rfl (Nat.le_of_ble_eq_true rfl) rfl ?_
  show Rn wC G 4 q_GR_hits 0 [some (.ref 0), some (.int a1), some (.int a2), some (.int a3), some (.int a4), some (.int a5)] [] hp (rI F)
  refine r_aload_n (i := 0) d_GR_hits_0 rfl rfl ?_
  refine r_getR (b := 0) (r := 3) d_GR_hits_1 fl_GR_19 (by decide) rfl rfl rfl ?_
  refine r_iload_n (i := 1) d_GR_hits_4 rfl rfl ?_
  refine rk_VI (b := 3) (d' := 1) [.int a1] [] d_GR_hits_5 ml_GR_144 rfl rfl (by decide) (by decide) rfl rfl (Nat.le_of_ble_eq_true rfl) (s_Ha_has a1 ?_)
  refine r_if_eq (tgt := 42) d_GR_hits_8 (by decide) (fun hc_8 => ?_) (fun hc_8 => ?_)
  · replace H := H.1 hc_8
    refine r_ldc d_GR_hits_42 ck_GR_196 ?_
    exact rI_ret d_GR_hits_44 rfl H
  · replace H := H.2 hc_8
    refine r_aload_n (i := 0) d_GR_hits_11 rfl rfl ?_
    refine r_getR (b := 0) (r := 3) d_GR_hits_12 fl_GR_19 (by decide) rfl rfl rfl ?_
    refine r_iload d_GR_hits_15 rfl ?_
    refine rk_VI (b := 3) (d' := 1) [.int a4] [] d_GR_hits_17 ml_GR_144 rfl rfl (by decide) (by decide) rfl rfl (Nat.le_of_ble_eq_true rfl) (s_Ha_has a4 ?_)
    refine r_if_eq (tgt := 42) d_GR_hits_20 (by decide) (fun hc_20 => ?_) (fun hc_20 => ?_)
    · replace H := H.1 hc_20
      refine r_ldc d_GR_hits_42 ck_GR_196 ?_
      exact rI_ret d_GR_hits_44 rfl H
    · replace H := H.2 hc_20
      refine r_iload_n (i := 2) d_GR_hits_23 rfl rfl ?_
      refine r_iload_n (i := 3) d_GR_hits_24 rfl rfl ?_
      refine rk_SI (d' := 1) [.int a2, .int a3] [] d_GR_hits_25 ml_GR_275 rfl rfl (by decide) (Nat.le_of_ble_eq_true rfl) (s_GR_isWay a2 a3 ?_)
      refine r_if_eq (tgt := 42) d_GR_hits_28 (by decide) (fun hc_28 => ?_) (fun hc_28 => ?_)
      · replace H := H.1 hc_28
        refine r_ldc d_GR_hits_42 ck_GR_196 ?_
        exact rI_ret d_GR_hits_44 rfl H
      · replace H := H.2 hc_28
        refine r_iload d_GR_hits_31 rfl ?_
        refine r_if_lt (tgt := 42) d_GR_hits_33 (by decide) (fun hc_33 => ?_) (fun hc_33 => ?_)
        · replace H := H.1 hc_33
          refine r_ldc d_GR_hits_42 ck_GR_196 ?_
          exact rI_ret d_GR_hits_44 rfl H
        · replace H := H.2 hc_33
          refine r_iload d_GR_hits_36 rfl ?_
          refine r_iconst d_GR_hits_38 ic_2 ?_
          refine r_icmp_le (tgt := 45) d_GR_hits_39 (by decide) (fun hc_39 => ?_) (fun hc_39 => ?_)
          · replace H := H.1 hc_39
            refine r_aload_n (i := 0) d_GR_hits_45 rfl rfl ?_
            refine r_getR (b := 0) (r := 44) d_GR_hits_46 fl_GR_82 (by decide) rfl rfl rfl ?_
            refine r_iload_n (i := 1) d_GR_hits_49 rfl rfl ?_
            refine r_iload_n (i := 2) d_GR_hits_50 rfl rfl ?_
            refine r_iload_n (i := 3) d_GR_hits_51 rfl rfl ?_
            refine r_iload d_GR_hits_52 rfl ?_
            refine rc_VI (b := 44) (d' := 3) [.int a1, .int a2, .int a3, .int a4] [] d_GR_hits_54 ml_GR_278 rfl rfl (by decide) (by decide) rfl rfl (Nat.le_of_ble_eq_true rfl) H ?_
            intro r2 h1 H
            refine r_if_ne (tgt := 63) d_GR_hits_57 (by decide) (fun hc_57 => ?_) (fun hc_57 => ?_)
            · replace H := H.2 hc_57
              refine r_iload d_GR_hits_63 rfl ?_
              refine r_if_ne (tgt := 86) d_GR_hits_65 (by decide) (fun hc_65 => ?_) (fun hc_65 => ?_)
              · replace H := H.2 hc_65
                have J89 : ∀ (v89_0 : Int32), v89_0 = ((if a5 = 1 then (h1.1 44 2) else (h1.1 44 3)) : Int32) → Rn wC G 4 q_GR_hits 109 [some (.ref 0), some (.int a1), some (.int a2), some (.int a3), some (.int a4), some (.int a5)] [.int v89_0] h1 (rI F) := by
                  rintro _ rfl
                  exact rI_ret d_GR_hits_109 rfl H
                refine r_iload d_GR_hits_86 rfl ?_
                refine r_iconst d_GR_hits_88 ic_1 ?_
                refine r_icmp_ne (tgt := 102) d_GR_hits_89 (by decide) (fun hc_89 => ?_) (fun hc_89 => ?_)
                · refine r_aload_n (i := 0) d_GR_hits_102 rfl rfl ?_
                  refine r_getR (b := 0) (r := 44) d_GR_hits_103 fl_GR_82 (by decide) rfl rfl rfl ?_
                  refine r_getI (b := 44) (v := h1.1 44 3) d_GR_hits_106 fl_GR_285 (by decide) rfl rfl rfl ?_
                  exact J89 _ (((if_neg hc_89).trans rfl)).symm
                · refine r_aload_n (i := 0) d_GR_hits_92 rfl rfl ?_
                  refine r_getR (b := 0) (r := 44) d_GR_hits_93 fl_GR_82 (by decide) rfl rfl rfl ?_
                  refine r_getI (b := 44) (v := h1.1 44 2) d_GR_hits_96 fl_GR_282 (by decide) rfl rfl rfl ?_
                  refine r_goto (tgt := 109) d_GR_hits_99 (by decide) ?_
                  exact J89 _ (((if_pos hc_89).trans rfl)).symm
              · replace H := H.1 hc_65
                refine r_aload_n (i := 0) d_GR_hits_68 rfl rfl ?_
                refine r_getR (b := 0) (r := 44) d_GR_hits_69 fl_GR_82 (by decide) rfl rfl rfl ?_
                refine r_getI (b := 44) (v := h1.1 44 2) d_GR_hits_72 fl_GR_282 (by decide) rfl rfl rfl ?_
                refine r_aload_n (i := 0) d_GR_hits_75 rfl rfl ?_
                refine r_getR (b := 0) (r := 44) d_GR_hits_76 fl_GR_82 (by decide) rfl rfl rfl ?_
                refine r_getI (b := 44) (v := h1.1 44 3) d_GR_hits_79 fl_GR_285 (by decide) rfl rfl rfl ?_
                refine rk_SI (d' := 2) [.int (h1.1 44 2), .int (h1.1 44 3)] [] d_GR_hits_82 ml_GR_210 rfl rfl (by decide) (Nat.le_of_ble_eq_true rfl) (s_GR_glasses (h1.1 44 2) (h1.1 44 3) ?_)
                exact rI_ret d_GR_hits_85 rfl H
            · replace H := H.1 hc_57
              refine r_ldc d_GR_hits_60 ck_GR_196 ?_
              exact rI_ret d_GR_hits_62 rfl H
          · replace H := H.2 hc_39
            refine r_ldc d_GR_hits_42 ck_GR_196 ?_
            exact rI_ret d_GR_hits_44 rfl H

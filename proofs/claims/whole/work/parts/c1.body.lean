theorem d_GR_body_0 : decode q_GR_body.2.1 0 = .ok (.aload_n 0, 1) := by decide +kernel
theorem d_GR_body_1 : decode q_GR_body.2.1 1 = .ok (.getfield 19, 3) := by decide +kernel
theorem d_GR_body_4 : decode q_GR_body.2.1 4 = .ok (.iload_n 1, 1) := by decide +kernel
theorem d_GR_body_5 : decode q_GR_body.2.1 5 = .ok (.invokevirtual 144, 3) := by decide +kernel
theorem d_GR_body_8 : decode q_GR_body.2.1 8 = .ok (.ifCond .eq 12, 3) := by decide +kernel
theorem d_GR_body_11 : decode q_GR_body.2.1 11 = .ok (.iload_n 2, 1) := by decide +kernel
theorem d_GR_body_12 : decode q_GR_body.2.1 12 = .ok (.ifCond .lt 8, 3) := by decide +kernel
theorem d_GR_body_15 : decode q_GR_body.2.1 15 = .ok (.iload_n 2, 1) := by decide +kernel
theorem d_GR_body_16 : decode q_GR_body.2.1 16 = .ok (.iconst 2, 1) := by decide +kernel
theorem d_GR_body_17 : decode q_GR_body.2.1 17 = .ok (.if_icmp .le 13, 3) := by decide +kernel
theorem d_GR_body_30 : decode q_GR_body.2.1 30 = .ok (.iload_n 2, 1) := by decide +kernel
theorem d_GR_body_31 : decode q_GR_body.2.1 31 = .ok (.ifCond .ne 13, 3) := by decide +kernel
theorem d_GR_body_34 : decode q_GR_body.2.1 34 = .ok (.aload_n 0, 1) := by decide +kernel
theorem d_GR_body_35 : decode q_GR_body.2.1 35 = .ok (.getfield 19, 3) := by decide +kernel
theorem d_GR_body_38 : decode q_GR_body.2.1 38 = .ok (.getfield 155, 3) := by decide +kernel
theorem d_GR_body_41 : decode q_GR_body.2.1 41 = .ok (.iload_n 1, 1) := by decide +kernel
theorem d_GR_body_42 : decode q_GR_body.2.1 42 = .ok (.iaload, 1) := by decide +kernel
theorem d_GR_body_43 : decode q_GR_body.2.1 43 = .ok (.ireturn, 1) := by decide +kernel
theorem d_GR_body_44 : decode q_GR_body.2.1 44 = .ok (.iload_n 2, 1) := by decide +kernel
theorem d_GR_body_45 : decode q_GR_body.2.1 45 = .ok (.iconst 1, 1) := by decide +kernel
theorem d_GR_body_46 : decode q_GR_body.2.1 46 = .ok (.if_icmp .ne 15, 3) := by decide +kernel
theorem d_GR_body_49 : decode q_GR_body.2.1 49 = .ok (.aload_n 0, 1) := by decide +kernel
theorem d_GR_body_50 : decode q_GR_body.2.1 50 = .ok (.getfield 19, 3) := by decide +kernel
theorem d_GR_body_53 : decode q_GR_body.2.1 53 = .ok (.getfield 158, 3) := by decide +kernel
theorem d_GR_body_56 : decode q_GR_body.2.1 56 = .ok (.iload_n 1, 1) := by decide +kernel
theorem d_GR_body_57 : decode q_GR_body.2.1 57 = .ok (.iaload, 1) := by decide +kernel
theorem d_GR_body_58 : decode q_GR_body.2.1 58 = .ok (.goto 12, 3) := by decide +kernel
theorem d_GR_body_70 : decode q_GR_body.2.1 70 = .ok (.ireturn, 1) := by decide +kernel
theorem d_GR_body_61 : decode q_GR_body.2.1 61 = .ok (.aload_n 0, 1) := by decide +kernel
theorem d_GR_body_62 : decode q_GR_body.2.1 62 = .ok (.getfield 19, 3) := by decide +kernel
theorem d_GR_body_65 : decode q_GR_body.2.1 65 = .ok (.getfield 161, 3) := by decide +kernel
theorem d_GR_body_68 : decode q_GR_body.2.1 68 = .ok (.iload_n 1, 1) := by decide +kernel
theorem d_GR_body_69 : decode q_GR_body.2.1 69 = .ok (.iaload, 1) := by decide +kernel
set_option maxHeartbeats 4000000 in
set_option maxRecDepth 20000 in
theorem w_GR_body {G : rx_Gh} {hp : rx_Hp} {F : Int32 → rx_Hp → Prop} (a1 : Int32) (a2 : Int32) (H : ((f_Ha_has a1 hp) = 0 → Rn wC G 3 q_GR_body 20 [none, none, none] [] hp (rI F)) ∧ (¬ (f_Ha_has a1 hp) = 0 → (a2 < 0 → Rn wC G 3 q_GR_body 20 [none, none, none] [] hp (rI F)) ∧ (¬ a2 < 0 → (a2 ≤ 2 → (a2 = 0 → vp_in a1 6 ∧ (F (hp.2.1 4 a1.toNatClampNeg) hp)) ∧ (¬ a2 = 0 → (a2 = 1 → vp_in a1 6 ∧ (F (hp.2.1 5 a1.toNatClampNeg) hp)) ∧ (¬ a2 = 1 → vp_in a1 6 ∧ (F (hp.2.1 6 a1.toNatClampNeg) hp)))) ∧ (¬ a2 ≤ 2 → Rn wC G 3 q_GR_body 20 [none, none, none] [] hp (rI F))))) : Ev wC G 3 q_GR_body [.ref 0, .int a1, .int a2] hp (rI F) := by
  refine ev_of rfl (Nat.le_of_ble_eq_true rfl) rfl ?_
  show Rn wC G 3 q_GR_body 0 [some (.ref 0), some (.int a1), some (.int a2)] [] hp (rI F)
  refine r_aload_n (i := 0) d_GR_body_0 rfl rfl ?_
  refine r_getR (b := 0) (r := 3) d_GR_body_1 fl_GR_19 (by decide) rfl rfl rfl ?_
  refine r_iload_n (i := 1) d_GR_body_4 rfl rfl ?_
  refine rk_VI (b := 3) (d' := 1) [.int a1] [] d_GR_body_5 ml_GR_144 rfl rfl (by decide) (by decide) rfl rfl (Nat.le_of_ble_eq_true rfl) (s_Ha_has a1 ?_)
  refine r_if_eq (tgt := 20) d_GR_body_8 (by decide) (fun hc_8 => ?_) (fun hc_8 => ?_)
  · replace H := H.1 hc_8
    exact rx_fgt [true, true, true] H
  · replace H := H.2 hc_8
    refine r_iload_n (i := 2) d_GR_body_11 rfl rfl ?_
    refine r_if_lt (tgt := 20) d_GR_body_12 (by decide) (fun hc_12 => ?_) (fun hc_12 => ?_)
    · replace H := H.1 hc_12
      exact rx_fgt [true, true, true] H
    · replace H := H.2 hc_12
      refine r_iload_n (i := 2) d_GR_body_15 rfl rfl ?_
      refine r_iconst d_GR_body_16 ic_2 ?_
      refine r_icmp_le (tgt := 30) d_GR_body_17 (by decide) (fun hc_17 => ?_) (fun hc_17 => ?_)
      · replace H := H.1 hc_17
        refine r_iload_n (i := 2) d_GR_body_30 rfl rfl ?_
        refine r_if_ne (tgt := 44) d_GR_body_31 (by decide) (fun hc_31 => ?_) (fun hc_31 => ?_)
        · replace H := H.2 hc_31
          refine r_iload_n (i := 2) d_GR_body_44 rfl rfl ?_
          refine r_iconst d_GR_body_45 ic_1 ?_
          refine r_icmp_ne (tgt := 61) d_GR_body_46 (by decide) (fun hc_46 => ?_) (fun hc_46 => ?_)
          · replace H := H.2 hc_46
            refine r_aload_n (i := 0) d_GR_body_61 rfl rfl ?_
            refine r_getR (b := 0) (r := 3) d_GR_body_62 fl_GR_19 (by decide) rfl rfl rfl ?_
            refine r_getR (b := 3) (r := 6) d_GR_body_65 fl_GR_161 (by decide) rfl rfl rfl ?_
            refine r_iload_n (i := 1) d_GR_body_68 rfl rfl ?_
            obtain ⟨hi_69, H⟩ := H
            refine r_iald (b := 6) (v := hp.2.1 6 a1.toNatClampNeg) d_GR_body_69 (by decide) rfl hi_69 rfl ?_
            exact rI_ret d_GR_body_70 rfl H
          · replace H := H.1 hc_46
            refine r_aload_n (i := 0) d_GR_body_49 rfl rfl ?_
            refine r_getR (b := 0) (r := 3) d_GR_body_50 fl_GR_19 (by decide) rfl rfl rfl ?_
            refine r_getR (b := 3) (r := 5) d_GR_body_53 fl_GR_158 (by decide) rfl rfl rfl ?_
            refine r_iload_n (i := 1) d_GR_body_56 rfl rfl ?_
            obtain ⟨hi_57, H⟩ := H
            refine r_iald (b := 5) (v := hp.2.1 5 a1.toNatClampNeg) d_GR_body_57 (by decide) rfl hi_57 rfl ?_
            refine r_goto (tgt := 70) d_GR_body_58 (by decide) ?_
            exact rI_ret d_GR_body_70 rfl H
        · replace H := H.1 hc_31
          refine r_aload_n (i := 0) d_GR_body_34 rfl rfl ?_
          refine r_getR (b := 0) (r := 3) d_GR_body_35 fl_GR_19 (by decide) rfl rfl rfl ?_
          refine r_getR (b := 3) (r := 4) d_GR_body_38 fl_GR_155 (by decide) rfl rfl rfl ?_
          refine r_iload_n (i := 1) d_GR_body_41 rfl rfl ?_
          obtain ⟨hi_42, H⟩ := H
          refine r_iald (b := 4) (v := hp.2.1 4 a1.toNatClampNeg) d_GR_body_42 (by decide) rfl hi_42 rfl ?_
          exact rI_ret d_GR_body_43 rfl H
      · replace H := H.2 hc_17
        exact rx_fgt [true, true, true] H

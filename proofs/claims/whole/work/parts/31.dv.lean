theorem d_M_divisor_0 : decode q_M_divisor.2.1 0 = .ok (.iload_n 1, 1) := by decide +kernel
theorem d_M_divisor_1 : decode q_M_divisor.2.1 1 = .ok (.ifCond .ne 10, 3) := by decide +kernel
theorem d_M_divisor_4 : decode q_M_divisor.2.1 4 = .ok (.iload_n 0, 1) := by decide +kernel
theorem d_M_divisor_5 : decode q_M_divisor.2.1 5 = .ok (.invokestatic 295, 3) := by decide +kernel
theorem d_M_divisor_8 : decode q_M_divisor.2.1 8 = .ok (.goto 10, 3) := by decide +kernel
theorem d_M_divisor_11 : decode q_M_divisor.2.1 11 = .ok (.iload_n 1, 1) := by decide +kernel
theorem d_M_divisor_12 : decode q_M_divisor.2.1 12 = .ok (.iload_n 0, 1) := by decide +kernel
theorem d_M_divisor_13 : decode q_M_divisor.2.1 13 = .ok (.iload_n 1, 1) := by decide +kernel
theorem d_M_divisor_14 : decode q_M_divisor.2.1 14 = .ok (.irem, 1) := by decide +kernel
theorem d_M_divisor_18 : decode q_M_divisor.2.1 18 = .ok (.ireturn, 1) := by decide +kernel
theorem d_M_divisor_15 : decode q_M_divisor.2.1 15 = .ok (.invokestatic 355, 3) := by decide +kernel
theorem ml_M_355 : rx_CS "GlassRoomModel" 355 q_M_divisor 2 := ⟨⟨(rx_s7 72 rfl rfl), (rx_s7 73 rfl rfl)⟩, ⟨(rx_s1 13 rfl rfl), q_M_divisor_k, ⟨by decide, by decide, by decide +kernel⟩, by decide⟩⟩
set_option maxHeartbeats 4000000 in
set_option maxRecDepth 20000 in
theorem w_M_divisor {Ω : rx_Om} {G : rx_Gh} {hp : rx_Hp} {F : Int32 → rx_Hp → Prop} (a1 : Int32) (a2 : Int32) {d : Nat} (H : (a2 = 0 → F (f_Mt_abs a1) hp) ∧ (¬ a2 = 0 → Ev Ω G (d + 1) q_M_divisor [.int a2, .int (a1 - a1 / a2 * a2)] hp (rI fun r2 h1 => F r2 h1))) : Ev Ω G (d + 2) q_M_divisor [.int a1, .int a2] hp (rI F) := by
  refine ev_of rfl (Nat.le_of_ble_eq_true rfl) rfl ?_
  show Rn Ω G (d + 2) q_M_divisor 0 [some (.int a1), some (.int a2)] [] hp (rI F)
  refine r_iload_n (i := 1) d_M_divisor_0 rfl rfl ?_
  refine r_if_ne (tgt := 11) d_M_divisor_1 (by decide) (fun hc_1 => ?_) (fun hc_1 => ?_)
  · replace H := H.2 hc_1
    refine r_iload_n (i := 1) d_M_divisor_11 rfl rfl ?_
    refine r_iload_n (i := 0) d_M_divisor_12 rfl rfl ?_
    refine r_iload_n (i := 1) d_M_divisor_13 rfl rfl ?_
    refine r_irem d_M_divisor_14 hc_1 ?_
    refine rc_SI (d' := (d + 1)) [.int a2, .int (a1 - a1 / a2 * a2)] [] d_M_divisor_15 ml_M_355 rfl rfl (by omega) (Nat.le_of_ble_eq_true rfl) H ?_
    intro r2 h1 H
    exact rI_ret d_M_divisor_18 rfl H
  · replace H := H.1 hc_1
    refine r_iload_n (i := 0) d_M_divisor_4 rfl rfl ?_
    refine rk_SI (d' := 1) [.int a1] [] d_M_divisor_5 ml_M_295 rfl rfl (by omega) (Nat.le_of_ble_eq_true rfl) (s_Mt_abs a1 ?_)
    refine r_goto (tgt := 18) d_M_divisor_8 (by decide) ?_
    exact rI_ret d_M_divisor_18 rfl H

theorem d_Mt_abs_0 : decode q_Mt_abs.2.1 0 = .ok (.iload_n 0, 1) := by decide +kernel
theorem d_Mt_abs_1 : decode q_Mt_abs.2.1 1 = .ok (.ifCond .ge 8, 3) := by decide +kernel
theorem d_Mt_abs_9 : decode q_Mt_abs.2.1 9 = .ok (.iload_n 0, 1) := by decide +kernel
theorem d_Mt_abs_4 : decode q_Mt_abs.2.1 4 = .ok (.iload_n 0, 1) := by decide +kernel
theorem d_Mt_abs_5 : decode q_Mt_abs.2.1 5 = .ok (.ineg, 1) := by decide +kernel
theorem d_Mt_abs_6 : decode q_Mt_abs.2.1 6 = .ok (.goto 4, 3) := by decide +kernel
theorem d_Mt_abs_10 : decode q_Mt_abs.2.1 10 = .ok (.ireturn, 1) := by decide +kernel
theorem d_Mt_max_0 : decode q_Mt_max.2.1 0 = .ok (.iload_n 0, 1) := by decide +kernel
theorem d_Mt_max_1 : decode q_Mt_max.2.1 1 = .ok (.iload_n 1, 1) := by decide +kernel
theorem d_Mt_max_2 : decode q_Mt_max.2.1 2 = .ok (.if_icmp .lt 7, 3) := by decide +kernel
theorem d_Mt_max_9 : decode q_Mt_max.2.1 9 = .ok (.iload_n 1, 1) := by decide +kernel
theorem d_Mt_max_5 : decode q_Mt_max.2.1 5 = .ok (.iload_n 0, 1) := by decide +kernel
theorem d_Mt_max_6 : decode q_Mt_max.2.1 6 = .ok (.goto 4, 3) := by decide +kernel
theorem d_Mt_max_10 : decode q_Mt_max.2.1 10 = .ok (.ireturn, 1) := by decide +kernel
theorem d_Mt_min_0 : decode q_Mt_min.2.1 0 = .ok (.iload_n 0, 1) := by decide +kernel
theorem d_Mt_min_1 : decode q_Mt_min.2.1 1 = .ok (.iload_n 1, 1) := by decide +kernel
theorem d_Mt_min_2 : decode q_Mt_min.2.1 2 = .ok (.if_icmp .gt 7, 3) := by decide +kernel
theorem d_Mt_min_9 : decode q_Mt_min.2.1 9 = .ok (.iload_n 1, 1) := by decide +kernel
theorem d_Mt_min_5 : decode q_Mt_min.2.1 5 = .ok (.iload_n 0, 1) := by decide +kernel
theorem d_Mt_min_6 : decode q_Mt_min.2.1 6 = .ok (.goto 4, 3) := by decide +kernel
theorem d_Mt_min_10 : decode q_Mt_min.2.1 10 = .ok (.ireturn, 1) := by decide +kernel
theorem d_Mt_max1_0 : decode q_Mt_max1.2.1 0 = .ok (.lload_n 0, 1) := by decide +kernel
theorem d_Mt_max1_1 : decode q_Mt_max1.2.1 1 = .ok (.lload_n 2, 1) := by decide +kernel
theorem d_Mt_max1_2 : decode q_Mt_max1.2.1 2 = .ok (.lcmp, 1) := by decide +kernel
theorem d_Mt_max1_3 : decode q_Mt_max1.2.1 3 = .ok (.ifCond .lt 7, 3) := by decide +kernel
theorem d_Mt_max1_10 : decode q_Mt_max1.2.1 10 = .ok (.lload_n 2, 1) := by decide +kernel
theorem d_Mt_max1_6 : decode q_Mt_max1.2.1 6 = .ok (.lload_n 0, 1) := by decide +kernel
theorem d_Mt_max1_7 : decode q_Mt_max1.2.1 7 = .ok (.goto 4, 3) := by decide +kernel
theorem d_Mt_max1_11 : decode q_Mt_max1.2.1 11 = .ok (.lreturn, 1) := by decide +kernel
theorem d_Mt_min1_0 : decode q_Mt_min1.2.1 0 = .ok (.lload_n 0, 1) := by decide +kernel
theorem d_Mt_min1_1 : decode q_Mt_min1.2.1 1 = .ok (.lload_n 2, 1) := by decide +kernel
theorem d_Mt_min1_2 : decode q_Mt_min1.2.1 2 = .ok (.lcmp, 1) := by decide +kernel
theorem d_Mt_min1_3 : decode q_Mt_min1.2.1 3 = .ok (.ifCond .gt 7, 3) := by decide +kernel
theorem d_Mt_min1_10 : decode q_Mt_min1.2.1 10 = .ok (.lload_n 2, 1) := by decide +kernel
theorem d_Mt_min1_6 : decode q_Mt_min1.2.1 6 = .ok (.lload_n 0, 1) := by decide +kernel
theorem d_Mt_min1_7 : decode q_Mt_min1.2.1 7 = .ok (.goto 4, 3) := by decide +kernel
theorem d_Mt_min1_11 : decode q_Mt_min1.2.1 11 = .ok (.lreturn, 1) := by decide +kernel
theorem d_Mt_floorMod_0 : decode q_Mt_floorMod.2.1 0 = .ok (.iload_n 0, 1) := by decide +kernel
theorem d_Mt_floorMod_1 : decode q_Mt_floorMod.2.1 1 = .ok (.iload_n 1, 1) := by decide +kernel
theorem d_Mt_floorMod_2 : decode q_Mt_floorMod.2.1 2 = .ok (.irem, 1) := by decide +kernel
theorem d_Mt_floorMod_3 : decode q_Mt_floorMod.2.1 3 = .ok (.istore_n 2, 1) := by decide +kernel
theorem d_Mt_floorMod_4 : decode q_Mt_floorMod.2.1 4 = .ok (.iload_n 0, 1) := by decide +kernel
theorem d_Mt_floorMod_5 : decode q_Mt_floorMod.2.1 5 = .ok (.iload_n 1, 1) := by decide +kernel
theorem d_Mt_floorMod_6 : decode q_Mt_floorMod.2.1 6 = .ok (.ixor, 1) := by decide +kernel
theorem d_Mt_floorMod_7 : decode q_Mt_floorMod.2.1 7 = .ok (.ifCond .ge 11, 3) := by decide +kernel
theorem d_Mt_floorMod_18 : decode q_Mt_floorMod.2.1 18 = .ok (.iload_n 2, 1) := by decide +kernel
theorem d_Mt_floorMod_19 : decode q_Mt_floorMod.2.1 19 = .ok (.ireturn, 1) := by decide +kernel
theorem d_Mt_floorMod_10 : decode q_Mt_floorMod.2.1 10 = .ok (.iload_n 2, 1) := by decide +kernel
theorem d_Mt_floorMod_11 : decode q_Mt_floorMod.2.1 11 = .ok (.ifCond .eq 7, 3) := by decide +kernel
theorem d_Mt_floorMod_14 : decode q_Mt_floorMod.2.1 14 = .ok (.iload_n 2, 1) := by decide +kernel
theorem d_Mt_floorMod_15 : decode q_Mt_floorMod.2.1 15 = .ok (.iload_n 1, 1) := by decide +kernel
theorem d_Mt_floorMod_16 : decode q_Mt_floorMod.2.1 16 = .ok (.iadd, 1) := by decide +kernel
theorem d_Mt_floorMod_17 : decode q_Mt_floorMod.2.1 17 = .ok (.ireturn, 1) := by decide +kernel
theorem d_It_bitCount_0 : decode q_It_bitCount.2.1 0 = .ok (.iload_n 0, 1) := by decide +kernel
theorem d_It_bitCount_1 : decode q_It_bitCount.2.1 1 = .ok (.iload_n 0, 1) := by decide +kernel
theorem d_It_bitCount_2 : decode q_It_bitCount.2.1 2 = .ok (.iconst 1, 1) := by decide +kernel
theorem ic_1 : Int32.ofInt (1) = (1 : Int32) := by decide
theorem d_It_bitCount_3 : decode q_It_bitCount.2.1 3 = .ok (.iushr, 1) := by decide +kernel
theorem d_It_bitCount_4 : decode q_It_bitCount.2.1 4 = .ok (.ldc_w 265, 3) := by decide +kernel
theorem ck_It_265 : Cond.constant "java/lang/Integer" 265 (1431655765) ∈ rx_gw := (rx_s4 99 rfl rfl)
theorem d_It_bitCount_7 : decode q_It_bitCount.2.1 7 = .ok (.iand, 1) := by decide +kernel
theorem d_It_bitCount_8 : decode q_It_bitCount.2.1 8 = .ok (.isub, 1) := by decide +kernel
theorem d_It_bitCount_9 : decode q_It_bitCount.2.1 9 = .ok (.istore_n 0, 1) := by decide +kernel
theorem d_It_bitCount_10 : decode q_It_bitCount.2.1 10 = .ok (.iload_n 0, 1) := by decide +kernel
theorem d_It_bitCount_11 : decode q_It_bitCount.2.1 11 = .ok (.ldc_w 266, 3) := by decide +kernel
theorem ck_It_266 : Cond.constant "java/lang/Integer" 266 (858993459) ∈ rx_gw := (rx_s4 100 rfl rfl)
theorem d_It_bitCount_14 : decode q_It_bitCount.2.1 14 = .ok (.iand, 1) := by decide +kernel
theorem d_It_bitCount_15 : decode q_It_bitCount.2.1 15 = .ok (.iload_n 0, 1) := by decide +kernel
theorem d_It_bitCount_16 : decode q_It_bitCount.2.1 16 = .ok (.iconst 2, 1) := by decide +kernel
theorem ic_2 : Int32.ofInt (2) = (2 : Int32) := by decide
theorem d_It_bitCount_17 : decode q_It_bitCount.2.1 17 = .ok (.iushr, 1) := by decide +kernel
theorem d_It_bitCount_18 : decode q_It_bitCount.2.1 18 = .ok (.ldc_w 266, 3) := by decide +kernel
theorem d_It_bitCount_21 : decode q_It_bitCount.2.1 21 = .ok (.iand, 1) := by decide +kernel
theorem d_It_bitCount_22 : decode q_It_bitCount.2.1 22 = .ok (.iadd, 1) := by decide +kernel
theorem d_It_bitCount_23 : decode q_It_bitCount.2.1 23 = .ok (.istore_n 0, 1) := by decide +kernel
theorem d_It_bitCount_24 : decode q_It_bitCount.2.1 24 = .ok (.iload_n 0, 1) := by decide +kernel
theorem d_It_bitCount_25 : decode q_It_bitCount.2.1 25 = .ok (.iload_n 0, 1) := by decide +kernel
theorem d_It_bitCount_26 : decode q_It_bitCount.2.1 26 = .ok (.iconst 4, 1) := by decide +kernel
theorem ic_4 : Int32.ofInt (4) = (4 : Int32) := by decide
theorem d_It_bitCount_27 : decode q_It_bitCount.2.1 27 = .ok (.iushr, 1) := by decide +kernel
theorem d_It_bitCount_28 : decode q_It_bitCount.2.1 28 = .ok (.iadd, 1) := by decide +kernel
theorem d_It_bitCount_29 : decode q_It_bitCount.2.1 29 = .ok (.ldc_w 267, 3) := by decide +kernel
theorem ck_It_267 : Cond.constant "java/lang/Integer" 267 (252645135) ∈ rx_gw := (rx_s4 101 rfl rfl)
theorem d_It_bitCount_32 : decode q_It_bitCount.2.1 32 = .ok (.iand, 1) := by decide +kernel
theorem d_It_bitCount_33 : decode q_It_bitCount.2.1 33 = .ok (.istore_n 0, 1) := by decide +kernel
theorem d_It_bitCount_34 : decode q_It_bitCount.2.1 34 = .ok (.iload_n 0, 1) := by decide +kernel
theorem d_It_bitCount_35 : decode q_It_bitCount.2.1 35 = .ok (.iload_n 0, 1) := by decide +kernel
theorem d_It_bitCount_36 : decode q_It_bitCount.2.1 36 = .ok (.bipush 8, 2) := by decide +kernel
theorem bp_8 : (Int8.ofInt (8)).toInt32 = (8 : Int32) := by decide
theorem d_It_bitCount_38 : decode q_It_bitCount.2.1 38 = .ok (.iushr, 1) := by decide +kernel
theorem d_It_bitCount_39 : decode q_It_bitCount.2.1 39 = .ok (.iadd, 1) := by decide +kernel
theorem d_It_bitCount_40 : decode q_It_bitCount.2.1 40 = .ok (.istore_n 0, 1) := by decide +kernel
theorem d_It_bitCount_41 : decode q_It_bitCount.2.1 41 = .ok (.iload_n 0, 1) := by decide +kernel
theorem d_It_bitCount_42 : decode q_It_bitCount.2.1 42 = .ok (.iload_n 0, 1) := by decide +kernel
theorem d_It_bitCount_43 : decode q_It_bitCount.2.1 43 = .ok (.bipush 16, 2) := by decide +kernel
theorem bp_16 : (Int8.ofInt (16)).toInt32 = (16 : Int32) := by decide
theorem d_It_bitCount_45 : decode q_It_bitCount.2.1 45 = .ok (.iushr, 1) := by decide +kernel
theorem d_It_bitCount_46 : decode q_It_bitCount.2.1 46 = .ok (.iadd, 1) := by decide +kernel
theorem d_It_bitCount_47 : decode q_It_bitCount.2.1 47 = .ok (.istore_n 0, 1) := by decide +kernel
theorem d_It_bitCount_48 : decode q_It_bitCount.2.1 48 = .ok (.iload_n 0, 1) := by decide +kernel
theorem d_It_bitCount_49 : decode q_It_bitCount.2.1 49 = .ok (.bipush 63, 2) := by decide +kernel
theorem bp_63 : (Int8.ofInt (63)).toInt32 = (63 : Int32) := by decide
theorem d_It_bitCount_51 : decode q_It_bitCount.2.1 51 = .ok (.iand, 1) := by decide +kernel
theorem d_It_bitCount_52 : decode q_It_bitCount.2.1 52 = .ok (.ireturn, 1) := by decide +kernel
set_option maxHeartbeats 4000000 in
set_option maxRecDepth 20000 in
theorem w_Mt_abs {Ω : rx_Om} {G : rx_Gh} {hp : rx_Hp} {F : Int32 → rx_Hp → Prop} (a1 : Int32) (H : F ((if 0 ≤ a1 then a1 else (-a1)) : Int32) hp) : Ev Ω G 1 q_Mt_abs [.int a1] hp (rI F) := by
  refine ev_of (by decide +kernel) (Nat.le_of_ble_eq_true rfl) rfl ?_
  show Rn Ω G 1 q_Mt_abs 0 [some (.int a1)] [] hp (rI F)
  have J1 : ∀ (v1_0 : Int32), v1_0 = ((if 0 ≤ a1 then a1 else (-a1)) : Int32) → Rn Ω G 1 q_Mt_abs 10 [some (.int a1)] [.int v1_0] hp (rI F) := by
    rintro _ rfl
    exact rI_ret d_Mt_abs_10 rfl H
  refine r_iload_n (i := 0) d_Mt_abs_0 rfl rfl ?_
  refine r_if_ge (tgt := 9) d_Mt_abs_1 (by decide) (fun hc_1 => ?_) (fun hc_1 => ?_)
  · refine r_iload_n (i := 0) d_Mt_abs_9 rfl rfl ?_
    exact J1 _ (((if_pos hc_1).trans rfl)).symm
  · refine r_iload_n (i := 0) d_Mt_abs_4 rfl rfl ?_
    refine r_ineg d_Mt_abs_5 ?_
    refine r_goto (tgt := 10) d_Mt_abs_6 (by decide) ?_
    exact J1 _ (((if_neg hc_1).trans rfl)).symm
def f_Mt_abs (a1 : Int32) : Int32 := ((if 0 ≤ a1 then a1 else (-a1)) : Int32)
theorem s_Mt_abs {Ω : rx_Om} {G : rx_Gh} {hp : rx_Hp} {F : Int32 → rx_Hp → Prop} (a1 : Int32) (H0 : F (f_Mt_abs a1) hp) : Ev Ω G 1 q_Mt_abs [.int a1] hp (rI F) := by
  have H : ∀ v h, v = (f_Mt_abs a1) → h = hp → F v h := by rintro _ _ rfl rfl; exact H0
  refine w_Mt_abs a1  ?_
  exact H _ _ (rfl).symm (rfl).symm
set_option maxHeartbeats 4000000 in
set_option maxRecDepth 20000 in
theorem w_Mt_max {Ω : rx_Om} {G : rx_Gh} {hp : rx_Hp} {F : Int32 → rx_Hp → Prop} (a1 : Int32) (a2 : Int32) (H : F ((if a1 < a2 then a2 else a1) : Int32) hp) : Ev Ω G 1 q_Mt_max [.int a1, .int a2] hp (rI F) := by
  refine ev_of (by decide +kernel) (Nat.le_of_ble_eq_true rfl) rfl ?_
  show Rn Ω G 1 q_Mt_max 0 [some (.int a1), some (.int a2)] [] hp (rI F)
  have J2 : ∀ (v2_0 : Int32), v2_0 = ((if a1 < a2 then a2 else a1) : Int32) → Rn Ω G 1 q_Mt_max 10 [some (.int a1), some (.int a2)] [.int v2_0] hp (rI F) := by
    rintro _ rfl
    exact rI_ret d_Mt_max_10 rfl H
  refine r_iload_n (i := 0) d_Mt_max_0 rfl rfl ?_
  refine r_iload_n (i := 1) d_Mt_max_1 rfl rfl ?_
  refine r_icmp_lt (tgt := 9) d_Mt_max_2 (by decide) (fun hc_2 => ?_) (fun hc_2 => ?_)
  · refine r_iload_n (i := 1) d_Mt_max_9 rfl rfl ?_
    exact J2 _ (((if_pos hc_2).trans rfl)).symm
  · refine r_iload_n (i := 0) d_Mt_max_5 rfl rfl ?_
    refine r_goto (tgt := 10) d_Mt_max_6 (by decide) ?_
    exact J2 _ (((if_neg hc_2).trans rfl)).symm
def f_Mt_max (a1 : Int32) (a2 : Int32) : Int32 := ((if a1 < a2 then a2 else a1) : Int32)
theorem s_Mt_max {Ω : rx_Om} {G : rx_Gh} {hp : rx_Hp} {F : Int32 → rx_Hp → Prop} (a1 : Int32) (a2 : Int32) (H0 : F (f_Mt_max a1 a2) hp) : Ev Ω G 1 q_Mt_max [.int a1, .int a2] hp (rI F) := by
  have H : ∀ v h, v = (f_Mt_max a1 a2) → h = hp → F v h := by rintro _ _ rfl rfl; exact H0
  refine w_Mt_max a1 a2  ?_
  exact H _ _ (rfl).symm (rfl).symm
set_option maxHeartbeats 4000000 in
set_option maxRecDepth 20000 in
theorem w_Mt_min {Ω : rx_Om} {G : rx_Gh} {hp : rx_Hp} {F : Int32 → rx_Hp → Prop} (a1 : Int32) (a2 : Int32) (H : F ((if a2 < a1 then a2 else a1) : Int32) hp) : Ev Ω G 1 q_Mt_min [.int a1, .int a2] hp (rI F) := by
  refine ev_of (by decide +kernel) (Nat.le_of_ble_eq_true rfl) rfl ?_
  show Rn Ω G 1 q_Mt_min 0 [some (.int a1), some (.int a2)] [] hp (rI F)
  have J2 : ∀ (v2_0 : Int32), v2_0 = ((if a2 < a1 then a2 else a1) : Int32) → Rn Ω G 1 q_Mt_min 10 [some (.int a1), some (.int a2)] [.int v2_0] hp (rI F) := by
    rintro _ rfl
    exact rI_ret d_Mt_min_10 rfl H
  refine r_iload_n (i := 0) d_Mt_min_0 rfl rfl ?_
  refine r_iload_n (i := 1) d_Mt_min_1 rfl rfl ?_
  refine r_icmp_gt (tgt := 9) d_Mt_min_2 (by decide) (fun hc_2 => ?_) (fun hc_2 => ?_)
  · refine r_iload_n (i := 1) d_Mt_min_9 rfl rfl ?_
    exact J2 _ (((if_pos hc_2).trans rfl)).symm
  · refine r_iload_n (i := 0) d_Mt_min_5 rfl rfl ?_
    refine r_goto (tgt := 10) d_Mt_min_6 (by decide) ?_
    exact J2 _ (((if_neg hc_2).trans rfl)).symm
def f_Mt_min (a1 : Int32) (a2 : Int32) : Int32 := ((if a2 < a1 then a2 else a1) : Int32)
theorem s_Mt_min {Ω : rx_Om} {G : rx_Gh} {hp : rx_Hp} {F : Int32 → rx_Hp → Prop} (a1 : Int32) (a2 : Int32) (H0 : F (f_Mt_min a1 a2) hp) : Ev Ω G 1 q_Mt_min [.int a1, .int a2] hp (rI F) := by
  have H : ∀ v h, v = (f_Mt_min a1 a2) → h = hp → F v h := by rintro _ _ rfl rfl; exact H0
  refine w_Mt_min a1 a2  ?_
  exact H _ _ (rfl).symm (rfl).symm
set_option maxHeartbeats 4000000 in
set_option maxRecDepth 20000 in
theorem w_Mt_max1 {Ω : rx_Om} {G : rx_Gh} {hp : rx_Hp} {F : Int64 → rx_Hp → Prop} (a1 : Int64) (a2 : Int64) (H : F ((if (lg_cmp a1 a2) < 0 then a2 else a1) : Int64) hp) : Ev Ω G 1 q_Mt_max1 [.long a1, .long a2] hp (rJ F) := by
  refine ev_of (by decide +kernel) (Nat.le_of_ble_eq_true rfl) rfl ?_
  show Rn Ω G 1 q_Mt_max1 0 [some (.long a1), none, some (.long a2), none] [] hp (rJ F)
  have J3 : ∀ (v3_0 : Int64), v3_0 = ((if (lg_cmp a1 a2) < 0 then a2 else a1) : Int64) → Rn Ω G 1 q_Mt_max1 11 [some (.long a1), none, some (.long a2), none] [.long v3_0] hp (rJ F) := by
    rintro _ rfl
    exact rJ_ret d_Mt_max1_11 rfl H
  refine r_lload_n (i := 0) d_Mt_max1_0 rfl rfl ?_
  refine r_lload_n (i := 2) d_Mt_max1_1 rfl rfl ?_
  refine r_lcmp d_Mt_max1_2 ?_
  refine r_if_lt (tgt := 10) d_Mt_max1_3 (by decide) (fun hc_3 => ?_) (fun hc_3 => ?_)
  · refine r_lload_n (i := 2) d_Mt_max1_10 rfl rfl ?_
    exact J3 _ (((if_pos hc_3).trans rfl)).symm
  · refine r_lload_n (i := 0) d_Mt_max1_6 rfl rfl ?_
    refine r_goto (tgt := 11) d_Mt_max1_7 (by decide) ?_
    exact J3 _ (((if_neg hc_3).trans rfl)).symm
def f_Mt_max1 (a1 : Int64) (a2 : Int64) : Int64 := ((if (lg_cmp a1 a2) < 0 then a2 else a1) : Int64)
theorem s_Mt_max1 {Ω : rx_Om} {G : rx_Gh} {hp : rx_Hp} {F : Int64 → rx_Hp → Prop} (a1 : Int64) (a2 : Int64) (H0 : F (f_Mt_max1 a1 a2) hp) : Ev Ω G 1 q_Mt_max1 [.long a1, .long a2] hp (rJ F) := by
  have H : ∀ v h, v = (f_Mt_max1 a1 a2) → h = hp → F v h := by rintro _ _ rfl rfl; exact H0
  refine w_Mt_max1 a1 a2  ?_
  exact H _ _ (rfl).symm (rfl).symm
set_option maxHeartbeats 4000000 in
set_option maxRecDepth 20000 in
theorem w_Mt_min1 {Ω : rx_Om} {G : rx_Gh} {hp : rx_Hp} {F : Int64 → rx_Hp → Prop} (a1 : Int64) (a2 : Int64) (H : F ((if 0 < (lg_cmp a1 a2) then a2 else a1) : Int64) hp) : Ev Ω G 1 q_Mt_min1 [.long a1, .long a2] hp (rJ F) := by
  refine ev_of (by decide +kernel) (Nat.le_of_ble_eq_true rfl) rfl ?_
  show Rn Ω G 1 q_Mt_min1 0 [some (.long a1), none, some (.long a2), none] [] hp (rJ F)
  have J3 : ∀ (v3_0 : Int64), v3_0 = ((if 0 < (lg_cmp a1 a2) then a2 else a1) : Int64) → Rn Ω G 1 q_Mt_min1 11 [some (.long a1), none, some (.long a2), none] [.long v3_0] hp (rJ F) := by
    rintro _ rfl
    exact rJ_ret d_Mt_min1_11 rfl H
  refine r_lload_n (i := 0) d_Mt_min1_0 rfl rfl ?_
  refine r_lload_n (i := 2) d_Mt_min1_1 rfl rfl ?_
  refine r_lcmp d_Mt_min1_2 ?_
  refine r_if_gt (tgt := 10) d_Mt_min1_3 (by decide) (fun hc_3 => ?_) (fun hc_3 => ?_)
  · refine r_lload_n (i := 2) d_Mt_min1_10 rfl rfl ?_
    exact J3 _ (((if_pos hc_3).trans rfl)).symm
  · refine r_lload_n (i := 0) d_Mt_min1_6 rfl rfl ?_
    refine r_goto (tgt := 11) d_Mt_min1_7 (by decide) ?_
    exact J3 _ (((if_neg hc_3).trans rfl)).symm
def f_Mt_min1 (a1 : Int64) (a2 : Int64) : Int64 := ((if 0 < (lg_cmp a1 a2) then a2 else a1) : Int64)
theorem s_Mt_min1 {Ω : rx_Om} {G : rx_Gh} {hp : rx_Hp} {F : Int64 → rx_Hp → Prop} (a1 : Int64) (a2 : Int64) (H0 : F (f_Mt_min1 a1 a2) hp) : Ev Ω G 1 q_Mt_min1 [.long a1, .long a2] hp (rJ F) := by
  have H : ∀ v h, v = (f_Mt_min1 a1 a2) → h = hp → F v h := by rintro _ _ rfl rfl; exact H0
  refine w_Mt_min1 a1 a2  ?_
  exact H _ _ (rfl).symm (rfl).symm
set_option maxHeartbeats 4000000 in
set_option maxRecDepth 20000 in
theorem w_Mt_floorMod {Ω : rx_Om} {G : rx_Gh} {hp : rx_Hp} {F : Int32 → rx_Hp → Prop} (a1 : Int32) (a2 : Int32) (H : ¬ a2 = 0 ∧ ((0 ≤ (a1 ^^^ a2) → F (a1 - a1 / a2 * a2) hp) ∧ (¬ 0 ≤ (a1 ^^^ a2) → ((a1 - a1 / a2 * a2) = 0 → F (a1 - a1 / a2 * a2) hp) ∧ (¬ (a1 - a1 / a2 * a2) = 0 → F ((a1 - a1 / a2 * a2) + a2) hp)))) : Ev Ω G 1 q_Mt_floorMod [.int a1, .int a2] hp (rI F) := by
  refine ev_of (by decide +kernel) (Nat.le_of_ble_eq_true rfl) rfl ?_
  show Rn Ω G 1 q_Mt_floorMod 0 [some (.int a1), some (.int a2), none] [] hp (rI F)
  refine r_iload_n (i := 0) d_Mt_floorMod_0 rfl rfl ?_
  refine r_iload_n (i := 1) d_Mt_floorMod_1 rfl rfl ?_
  obtain ⟨hz_2, H⟩ := H
  refine r_irem d_Mt_floorMod_2 hz_2 ?_
  refine r_istore_n (i := 2) (lz := [some (.int a1), some (.int a2), some (.int (a1 - a1 / a2 * a2))]) d_Mt_floorMod_3 rfl (by decide) rfl rfl ?_
  refine r_iload_n (i := 0) d_Mt_floorMod_4 rfl rfl ?_
  refine r_iload_n (i := 1) d_Mt_floorMod_5 rfl rfl ?_
  refine r_ixor d_Mt_floorMod_6 ?_
  refine r_if_ge (tgt := 18) d_Mt_floorMod_7 (by decide) (fun hc_7 => ?_) (fun hc_7 => ?_)
  · replace H := H.1 hc_7
    refine r_iload_n (i := 2) d_Mt_floorMod_18 rfl rfl ?_
    exact rI_ret d_Mt_floorMod_19 rfl H
  · replace H := H.2 hc_7
    refine r_iload_n (i := 2) d_Mt_floorMod_10 rfl rfl ?_
    refine r_if_eq (tgt := 18) d_Mt_floorMod_11 (by decide) (fun hc_11 => ?_) (fun hc_11 => ?_)
    · replace H := H.1 hc_11
      refine r_iload_n (i := 2) d_Mt_floorMod_18 rfl rfl ?_
      exact rI_ret d_Mt_floorMod_19 rfl H
    · replace H := H.2 hc_11
      refine r_iload_n (i := 2) d_Mt_floorMod_14 rfl rfl ?_
      refine r_iload_n (i := 1) d_Mt_floorMod_15 rfl rfl ?_
      refine r_iadd d_Mt_floorMod_16 ?_
      exact rI_ret d_Mt_floorMod_17 rfl H
def f_Mt_floorMod (a1 : Int32) (a2 : Int32) : Int32 := (if 0 ≤ (a1 ^^^ a2) then (a1 - a1 / a2 * a2) else (if (a1 - a1 / a2 * a2) = 0 then (a1 - a1 / a2 * a2) else ((a1 - a1 / a2 * a2) + a2)))
def p_Mt_floorMod (a1 : Int32) (a2 : Int32) : Prop := ¬ a2 = 0
theorem s_Mt_floorMod {Ω : rx_Om} {G : rx_Gh} {hp : rx_Hp} {F : Int32 → rx_Hp → Prop} (a1 : Int32) (a2 : Int32) (hP : (p_Mt_floorMod a1 a2)) (H0 : F (f_Mt_floorMod a1 a2) hp) : Ev Ω G 1 q_Mt_floorMod [.int a1, .int a2] hp (rI F) := by
  have H : ∀ v h, v = (f_Mt_floorMod a1 a2) → h = hp → F v h := by rintro _ _ rfl rfl; exact H0
  unfold p_Mt_floorMod at hP
  refine w_Mt_floorMod a1 a2  ?_
  refine ⟨hP, ?_⟩
  refine ⟨fun hc_7 => ?_, fun hc_7 => ?_⟩
  · exact H _ _ (((if_pos hc_7).trans rfl)).symm (rfl).symm
  · refine ⟨fun hc_11 => ?_, fun hc_11 => ?_⟩
    · exact H _ _ (((if_neg hc_7).trans ((if_pos hc_11).trans rfl))).symm (rfl).symm
    · exact H _ _ (((if_neg hc_7).trans ((if_neg hc_11).trans rfl))).symm (rfl).symm
set_option maxHeartbeats 4000000 in
set_option maxRecDepth 20000 in
theorem w_It_bitCount {Ω : rx_Om} {G : rx_Gh} {hp : rx_Hp} {F : Int32 → rx_Hp → Prop} (a1 : Int32) (H : F ((((((((a1 - (((a1.toUInt32 >>> ((1 : Int32).toUInt32 &&& Int32.toUInt32 31)).toInt32) &&& 1431655765)) &&& 858993459) + ((((a1 - (((a1.toUInt32 >>> ((1 : Int32).toUInt32 &&& Int32.toUInt32 31)).toInt32) &&& 1431655765)).toUInt32 >>> ((2 : Int32).toUInt32 &&& Int32.toUInt32 31)).toInt32) &&& 858993459)) + (((((a1 - (((a1.toUInt32 >>> ((1 : Int32).toUInt32 &&& Int32.toUInt32 31)).toInt32) &&& 1431655765)) &&& 858993459) + ((((a1 - (((a1.toUInt32 >>> ((1 : Int32).toUInt32 &&& Int32.toUInt32 31)).toInt32) &&& 1431655765)).toUInt32 >>> ((2 : Int32).toUInt32 &&& Int32.toUInt32 31)).toInt32) &&& 858993459)).toUInt32 >>> ((4 : Int32).toUInt32 &&& Int32.toUInt32 31)).toInt32)) &&& 252645135) + (((((((a1 - (((a1.toUInt32 >>> ((1 : Int32).toUInt32 &&& Int32.toUInt32 31)).toInt32) &&& 1431655765)) &&& 858993459) + ((((a1 - (((a1.toUInt32 >>> ((1 : Int32).toUInt32 &&& Int32.toUInt32 31)).toInt32) &&& 1431655765)).toUInt32 >>> ((2 : Int32).toUInt32 &&& Int32.toUInt32 31)).toInt32) &&& 858993459)) + (((((a1 - (((a1.toUInt32 >>> ((1 : Int32).toUInt32 &&& Int32.toUInt32 31)).toInt32) &&& 1431655765)) &&& 858993459) + ((((a1 - (((a1.toUInt32 >>> ((1 : Int32).toUInt32 &&& Int32.toUInt32 31)).toInt32) &&& 1431655765)).toUInt32 >>> ((2 : Int32).toUInt32 &&& Int32.toUInt32 31)).toInt32) &&& 858993459)).toUInt32 >>> ((4 : Int32).toUInt32 &&& Int32.toUInt32 31)).toInt32)) &&& 252645135).toUInt32 >>> ((8 : Int32).toUInt32 &&& Int32.toUInt32 31)).toInt32)) + ((((((((a1 - (((a1.toUInt32 >>> ((1 : Int32).toUInt32 &&& Int32.toUInt32 31)).toInt32) &&& 1431655765)) &&& 858993459) + ((((a1 - (((a1.toUInt32 >>> ((1 : Int32).toUInt32 &&& Int32.toUInt32 31)).toInt32) &&& 1431655765)).toUInt32 >>> ((2 : Int32).toUInt32 &&& Int32.toUInt32 31)).toInt32) &&& 858993459)) + (((((a1 - (((a1.toUInt32 >>> ((1 : Int32).toUInt32 &&& Int32.toUInt32 31)).toInt32) &&& 1431655765)) &&& 858993459) + ((((a1 - (((a1.toUInt32 >>> ((1 : Int32).toUInt32 &&& Int32.toUInt32 31)).toInt32) &&& 1431655765)).toUInt32 >>> ((2 : Int32).toUInt32 &&& Int32.toUInt32 31)).toInt32) &&& 858993459)).toUInt32 >>> ((4 : Int32).toUInt32 &&& Int32.toUInt32 31)).toInt32)) &&& 252645135) + (((((((a1 - (((a1.toUInt32 >>> ((1 : Int32).toUInt32 &&& Int32.toUInt32 31)).toInt32) &&& 1431655765)) &&& 858993459) + ((((a1 - (((a1.toUInt32 >>> ((1 : Int32).toUInt32 &&& Int32.toUInt32 31)).toInt32) &&& 1431655765)).toUInt32 >>> ((2 : Int32).toUInt32 &&& Int32.toUInt32 31)).toInt32) &&& 858993459)) + (((((a1 - (((a1.toUInt32 >>> ((1 : Int32).toUInt32 &&& Int32.toUInt32 31)).toInt32) &&& 1431655765)) &&& 858993459) + ((((a1 - (((a1.toUInt32 >>> ((1 : Int32).toUInt32 &&& Int32.toUInt32 31)).toInt32) &&& 1431655765)).toUInt32 >>> ((2 : Int32).toUInt32 &&& Int32.toUInt32 31)).toInt32) &&& 858993459)).toUInt32 >>> ((4 : Int32).toUInt32 &&& Int32.toUInt32 31)).toInt32)) &&& 252645135).toUInt32 >>> ((8 : Int32).toUInt32 &&& Int32.toUInt32 31)).toInt32)).toUInt32 >>> ((16 : Int32).toUInt32 &&& Int32.toUInt32 31)).toInt32)) &&& 63) hp) : Ev Ω G 1 q_It_bitCount [.int a1] hp (rI F) := by
  refine ev_of rfl (Nat.le_of_ble_eq_true rfl) rfl ?_
  show Rn Ω G 1 q_It_bitCount 0 [some (.int a1)] [] hp (rI F)
  refine r_iload_n (i := 0) d_It_bitCount_0 rfl rfl ?_
  refine r_iload_n (i := 0) d_It_bitCount_1 rfl rfl ?_
  refine r_iconst d_It_bitCount_2 ic_1 ?_
  refine r_iushr d_It_bitCount_3 ?_
  refine r_ldcw d_It_bitCount_4 ck_It_265 ?_
  refine r_iand d_It_bitCount_7 ?_
  refine r_isub d_It_bitCount_8 ?_
  refine r_istore_n (i := 0) (lz := [some (.int (a1 - (((a1.toUInt32 >>> ((1 : Int32).toUInt32 &&& Int32.toUInt32 31)).toInt32) &&& 1431655765)))]) d_It_bitCount_9 rfl (by decide) rfl rfl ?_
  refine r_iload_n (i := 0) d_It_bitCount_10 rfl rfl ?_
  refine r_ldcw d_It_bitCount_11 ck_It_266 ?_
  refine r_iand d_It_bitCount_14 ?_
  refine r_iload_n (i := 0) d_It_bitCount_15 rfl rfl ?_
  refine r_iconst d_It_bitCount_16 ic_2 ?_
  refine r_iushr d_It_bitCount_17 ?_
  refine r_ldcw d_It_bitCount_18 ck_It_266 ?_
  refine r_iand d_It_bitCount_21 ?_
  refine r_iadd d_It_bitCount_22 ?_
  refine r_istore_n (i := 0) (lz := [some (.int (((a1 - (((a1.toUInt32 >>> ((1 : Int32).toUInt32 &&& Int32.toUInt32 31)).toInt32) &&& 1431655765)) &&& 858993459) + ((((a1 - (((a1.toUInt32 >>> ((1 : Int32).toUInt32 &&& Int32.toUInt32 31)).toInt32) &&& 1431655765)).toUInt32 >>> ((2 : Int32).toUInt32 &&& Int32.toUInt32 31)).toInt32) &&& 858993459)))]) d_It_bitCount_23 rfl (by decide) rfl rfl ?_
  refine r_iload_n (i := 0) d_It_bitCount_24 rfl rfl ?_
  refine r_iload_n (i := 0) d_It_bitCount_25 rfl rfl ?_
  refine r_iconst d_It_bitCount_26 ic_4 ?_
  refine r_iushr d_It_bitCount_27 ?_
  refine r_iadd d_It_bitCount_28 ?_
  refine r_ldcw d_It_bitCount_29 ck_It_267 ?_
  refine r_iand d_It_bitCount_32 ?_
  refine r_istore_n (i := 0) (lz := [some (.int (((((a1 - (((a1.toUInt32 >>> ((1 : Int32).toUInt32 &&& Int32.toUInt32 31)).toInt32) &&& 1431655765)) &&& 858993459) + ((((a1 - (((a1.toUInt32 >>> ((1 : Int32).toUInt32 &&& Int32.toUInt32 31)).toInt32) &&& 1431655765)).toUInt32 >>> ((2 : Int32).toUInt32 &&& Int32.toUInt32 31)).toInt32) &&& 858993459)) + (((((a1 - (((a1.toUInt32 >>> ((1 : Int32).toUInt32 &&& Int32.toUInt32 31)).toInt32) &&& 1431655765)) &&& 858993459) + ((((a1 - (((a1.toUInt32 >>> ((1 : Int32).toUInt32 &&& Int32.toUInt32 31)).toInt32) &&& 1431655765)).toUInt32 >>> ((2 : Int32).toUInt32 &&& Int32.toUInt32 31)).toInt32) &&& 858993459)).toUInt32 >>> ((4 : Int32).toUInt32 &&& Int32.toUInt32 31)).toInt32)) &&& 252645135))]) d_It_bitCount_33 rfl (by decide) rfl rfl ?_
  refine r_iload_n (i := 0) d_It_bitCount_34 rfl rfl ?_
  refine r_iload_n (i := 0) d_It_bitCount_35 rfl rfl ?_
  refine r_bipush d_It_bitCount_36 bp_8 ?_
  refine r_iushr d_It_bitCount_38 ?_
  refine r_iadd d_It_bitCount_39 ?_
  refine r_istore_n (i := 0) (lz := [some (.int ((((((a1 - (((a1.toUInt32 >>> ((1 : Int32).toUInt32 &&& Int32.toUInt32 31)).toInt32) &&& 1431655765)) &&& 858993459) + ((((a1 - (((a1.toUInt32 >>> ((1 : Int32).toUInt32 &&& Int32.toUInt32 31)).toInt32) &&& 1431655765)).toUInt32 >>> ((2 : Int32).toUInt32 &&& Int32.toUInt32 31)).toInt32) &&& 858993459)) + (((((a1 - (((a1.toUInt32 >>> ((1 : Int32).toUInt32 &&& Int32.toUInt32 31)).toInt32) &&& 1431655765)) &&& 858993459) + ((((a1 - (((a1.toUInt32 >>> ((1 : Int32).toUInt32 &&& Int32.toUInt32 31)).toInt32) &&& 1431655765)).toUInt32 >>> ((2 : Int32).toUInt32 &&& Int32.toUInt32 31)).toInt32) &&& 858993459)).toUInt32 >>> ((4 : Int32).toUInt32 &&& Int32.toUInt32 31)).toInt32)) &&& 252645135) + (((((((a1 - (((a1.toUInt32 >>> ((1 : Int32).toUInt32 &&& Int32.toUInt32 31)).toInt32) &&& 1431655765)) &&& 858993459) + ((((a1 - (((a1.toUInt32 >>> ((1 : Int32).toUInt32 &&& Int32.toUInt32 31)).toInt32) &&& 1431655765)).toUInt32 >>> ((2 : Int32).toUInt32 &&& Int32.toUInt32 31)).toInt32) &&& 858993459)) + (((((a1 - (((a1.toUInt32 >>> ((1 : Int32).toUInt32 &&& Int32.toUInt32 31)).toInt32) &&& 1431655765)) &&& 858993459) + ((((a1 - (((a1.toUInt32 >>> ((1 : Int32).toUInt32 &&& Int32.toUInt32 31)).toInt32) &&& 1431655765)).toUInt32 >>> ((2 : Int32).toUInt32 &&& Int32.toUInt32 31)).toInt32) &&& 858993459)).toUInt32 >>> ((4 : Int32).toUInt32 &&& Int32.toUInt32 31)).toInt32)) &&& 252645135).toUInt32 >>> ((8 : Int32).toUInt32 &&& Int32.toUInt32 31)).toInt32)))]) d_It_bitCount_40 rfl (by decide) rfl rfl ?_
  refine r_iload_n (i := 0) d_It_bitCount_41 rfl rfl ?_
  refine r_iload_n (i := 0) d_It_bitCount_42 rfl rfl ?_
  refine r_bipush d_It_bitCount_43 bp_16 ?_
  refine r_iushr d_It_bitCount_45 ?_
  refine r_iadd d_It_bitCount_46 ?_
  refine r_istore_n (i := 0) (lz := [some (.int (((((((a1 - (((a1.toUInt32 >>> ((1 : Int32).toUInt32 &&& Int32.toUInt32 31)).toInt32) &&& 1431655765)) &&& 858993459) + ((((a1 - (((a1.toUInt32 >>> ((1 : Int32).toUInt32 &&& Int32.toUInt32 31)).toInt32) &&& 1431655765)).toUInt32 >>> ((2 : Int32).toUInt32 &&& Int32.toUInt32 31)).toInt32) &&& 858993459)) + (((((a1 - (((a1.toUInt32 >>> ((1 : Int32).toUInt32 &&& Int32.toUInt32 31)).toInt32) &&& 1431655765)) &&& 858993459) + ((((a1 - (((a1.toUInt32 >>> ((1 : Int32).toUInt32 &&& Int32.toUInt32 31)).toInt32) &&& 1431655765)).toUInt32 >>> ((2 : Int32).toUInt32 &&& Int32.toUInt32 31)).toInt32) &&& 858993459)).toUInt32 >>> ((4 : Int32).toUInt32 &&& Int32.toUInt32 31)).toInt32)) &&& 252645135) + (((((((a1 - (((a1.toUInt32 >>> ((1 : Int32).toUInt32 &&& Int32.toUInt32 31)).toInt32) &&& 1431655765)) &&& 858993459) + ((((a1 - (((a1.toUInt32 >>> ((1 : Int32).toUInt32 &&& Int32.toUInt32 31)).toInt32) &&& 1431655765)).toUInt32 >>> ((2 : Int32).toUInt32 &&& Int32.toUInt32 31)).toInt32) &&& 858993459)) + (((((a1 - (((a1.toUInt32 >>> ((1 : Int32).toUInt32 &&& Int32.toUInt32 31)).toInt32) &&& 1431655765)) &&& 858993459) + ((((a1 - (((a1.toUInt32 >>> ((1 : Int32).toUInt32 &&& Int32.toUInt32 31)).toInt32) &&& 1431655765)).toUInt32 >>> ((2 : Int32).toUInt32 &&& Int32.toUInt32 31)).toInt32) &&& 858993459)).toUInt32 >>> ((4 : Int32).toUInt32 &&& Int32.toUInt32 31)).toInt32)) &&& 252645135).toUInt32 >>> ((8 : Int32).toUInt32 &&& Int32.toUInt32 31)).toInt32)) + ((((((((a1 - (((a1.toUInt32 >>> ((1 : Int32).toUInt32 &&& Int32.toUInt32 31)).toInt32) &&& 1431655765)) &&& 858993459) + ((((a1 - (((a1.toUInt32 >>> ((1 : Int32).toUInt32 &&& Int32.toUInt32 31)).toInt32) &&& 1431655765)).toUInt32 >>> ((2 : Int32).toUInt32 &&& Int32.toUInt32 31)).toInt32) &&& 858993459)) + (((((a1 - (((a1.toUInt32 >>> ((1 : Int32).toUInt32 &&& Int32.toUInt32 31)).toInt32) &&& 1431655765)) &&& 858993459) + ((((a1 - (((a1.toUInt32 >>> ((1 : Int32).toUInt32 &&& Int32.toUInt32 31)).toInt32) &&& 1431655765)).toUInt32 >>> ((2 : Int32).toUInt32 &&& Int32.toUInt32 31)).toInt32) &&& 858993459)).toUInt32 >>> ((4 : Int32).toUInt32 &&& Int32.toUInt32 31)).toInt32)) &&& 252645135) + (((((((a1 - (((a1.toUInt32 >>> ((1 : Int32).toUInt32 &&& Int32.toUInt32 31)).toInt32) &&& 1431655765)) &&& 858993459) + ((((a1 - (((a1.toUInt32 >>> ((1 : Int32).toUInt32 &&& Int32.toUInt32 31)).toInt32) &&& 1431655765)).toUInt32 >>> ((2 : Int32).toUInt32 &&& Int32.toUInt32 31)).toInt32) &&& 858993459)) + (((((a1 - (((a1.toUInt32 >>> ((1 : Int32).toUInt32 &&& Int32.toUInt32 31)).toInt32) &&& 1431655765)) &&& 858993459) + ((((a1 - (((a1.toUInt32 >>> ((1 : Int32).toUInt32 &&& Int32.toUInt32 31)).toInt32) &&& 1431655765)).toUInt32 >>> ((2 : Int32).toUInt32 &&& Int32.toUInt32 31)).toInt32) &&& 858993459)).toUInt32 >>> ((4 : Int32).toUInt32 &&& Int32.toUInt32 31)).toInt32)) &&& 252645135).toUInt32 >>> ((8 : Int32).toUInt32 &&& Int32.toUInt32 31)).toInt32)).toUInt32 >>> ((16 : Int32).toUInt32 &&& Int32.toUInt32 31)).toInt32)))]) d_It_bitCount_47 rfl (by decide) rfl rfl ?_
  refine r_iload_n (i := 0) d_It_bitCount_48 rfl rfl ?_
  refine r_bipush d_It_bitCount_49 bp_63 ?_
  refine r_iand d_It_bitCount_51 ?_
  exact rI_ret d_It_bitCount_52 rfl H
def f_It_bitCount (a1 : Int32) : Int32 := (((((((a1 - (((a1.toUInt32 >>> ((1 : Int32).toUInt32 &&& Int32.toUInt32 31)).toInt32) &&& 1431655765)) &&& 858993459) + ((((a1 - (((a1.toUInt32 >>> ((1 : Int32).toUInt32 &&& Int32.toUInt32 31)).toInt32) &&& 1431655765)).toUInt32 >>> ((2 : Int32).toUInt32 &&& Int32.toUInt32 31)).toInt32) &&& 858993459)) + (((((a1 - (((a1.toUInt32 >>> ((1 : Int32).toUInt32 &&& Int32.toUInt32 31)).toInt32) &&& 1431655765)) &&& 858993459) + ((((a1 - (((a1.toUInt32 >>> ((1 : Int32).toUInt32 &&& Int32.toUInt32 31)).toInt32) &&& 1431655765)).toUInt32 >>> ((2 : Int32).toUInt32 &&& Int32.toUInt32 31)).toInt32) &&& 858993459)).toUInt32 >>> ((4 : Int32).toUInt32 &&& Int32.toUInt32 31)).toInt32)) &&& 252645135) + (((((((a1 - (((a1.toUInt32 >>> ((1 : Int32).toUInt32 &&& Int32.toUInt32 31)).toInt32) &&& 1431655765)) &&& 858993459) + ((((a1 - (((a1.toUInt32 >>> ((1 : Int32).toUInt32 &&& Int32.toUInt32 31)).toInt32) &&& 1431655765)).toUInt32 >>> ((2 : Int32).toUInt32 &&& Int32.toUInt32 31)).toInt32) &&& 858993459)) + (((((a1 - (((a1.toUInt32 >>> ((1 : Int32).toUInt32 &&& Int32.toUInt32 31)).toInt32) &&& 1431655765)) &&& 858993459) + ((((a1 - (((a1.toUInt32 >>> ((1 : Int32).toUInt32 &&& Int32.toUInt32 31)).toInt32) &&& 1431655765)).toUInt32 >>> ((2 : Int32).toUInt32 &&& Int32.toUInt32 31)).toInt32) &&& 858993459)).toUInt32 >>> ((4 : Int32).toUInt32 &&& Int32.toUInt32 31)).toInt32)) &&& 252645135).toUInt32 >>> ((8 : Int32).toUInt32 &&& Int32.toUInt32 31)).toInt32)) + ((((((((a1 - (((a1.toUInt32 >>> ((1 : Int32).toUInt32 &&& Int32.toUInt32 31)).toInt32) &&& 1431655765)) &&& 858993459) + ((((a1 - (((a1.toUInt32 >>> ((1 : Int32).toUInt32 &&& Int32.toUInt32 31)).toInt32) &&& 1431655765)).toUInt32 >>> ((2 : Int32).toUInt32 &&& Int32.toUInt32 31)).toInt32) &&& 858993459)) + (((((a1 - (((a1.toUInt32 >>> ((1 : Int32).toUInt32 &&& Int32.toUInt32 31)).toInt32) &&& 1431655765)) &&& 858993459) + ((((a1 - (((a1.toUInt32 >>> ((1 : Int32).toUInt32 &&& Int32.toUInt32 31)).toInt32) &&& 1431655765)).toUInt32 >>> ((2 : Int32).toUInt32 &&& Int32.toUInt32 31)).toInt32) &&& 858993459)).toUInt32 >>> ((4 : Int32).toUInt32 &&& Int32.toUInt32 31)).toInt32)) &&& 252645135) + (((((((a1 - (((a1.toUInt32 >>> ((1 : Int32).toUInt32 &&& Int32.toUInt32 31)).toInt32) &&& 1431655765)) &&& 858993459) + ((((a1 - (((a1.toUInt32 >>> ((1 : Int32).toUInt32 &&& Int32.toUInt32 31)).toInt32) &&& 1431655765)).toUInt32 >>> ((2 : Int32).toUInt32 &&& Int32.toUInt32 31)).toInt32) &&& 858993459)) + (((((a1 - (((a1.toUInt32 >>> ((1 : Int32).toUInt32 &&& Int32.toUInt32 31)).toInt32) &&& 1431655765)) &&& 858993459) + ((((a1 - (((a1.toUInt32 >>> ((1 : Int32).toUInt32 &&& Int32.toUInt32 31)).toInt32) &&& 1431655765)).toUInt32 >>> ((2 : Int32).toUInt32 &&& Int32.toUInt32 31)).toInt32) &&& 858993459)).toUInt32 >>> ((4 : Int32).toUInt32 &&& Int32.toUInt32 31)).toInt32)) &&& 252645135).toUInt32 >>> ((8 : Int32).toUInt32 &&& Int32.toUInt32 31)).toInt32)).toUInt32 >>> ((16 : Int32).toUInt32 &&& Int32.toUInt32 31)).toInt32)) &&& 63
theorem s_It_bitCount {Ω : rx_Om} {G : rx_Gh} {hp : rx_Hp} {F : Int32 → rx_Hp → Prop} (a1 : Int32) (H0 : F (f_It_bitCount a1) hp) : Ev Ω G 1 q_It_bitCount [.int a1] hp (rI F) := by
  have H : ∀ v h, v = (f_It_bitCount a1) → h = hp → F v h := by rintro _ _ rfl rfl; exact H0
  refine w_It_bitCount a1  ?_
  exact H _ _ (rfl).symm (rfl).symm

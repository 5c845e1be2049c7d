theorem d_SL_canEncode_0 : decode q_SL_canEncode.2.1 0 = .ok (.iload_n 0, 1) := by decide +kernel
theorem d_SL_canEncode_1 : decode q_SL_canEncode.2.1 1 = .ok (.ifCond .lt 14, 3) := by decide +kernel
theorem d_SL_canEncode_15 : decode q_SL_canEncode.2.1 15 = .ok (.iconst 0, 1) := by decide +kernel
theorem d_SL_canEncode_4 : decode q_SL_canEncode.2.1 4 = .ok (.iload_n 0, 1) := by decide +kernel
theorem d_SL_canEncode_5 : decode q_SL_canEncode.2.1 5 = .ok (.sipush 255, 3) := by decide +kernel
theorem d_SL_canEncode_8 : decode q_SL_canEncode.2.1 8 = .ok (.if_icmp .gt 7, 3) := by decide +kernel
theorem d_SL_canEncode_11 : decode q_SL_canEncode.2.1 11 = .ok (.iconst 1, 1) := by decide +kernel
theorem d_SL_canEncode_12 : decode q_SL_canEncode.2.1 12 = .ok (.goto 4, 3) := by decide +kernel
theorem d_SL_canEncode_16 : decode q_SL_canEncode.2.1 16 = .ok (.ireturn, 1) := by decide +kernel
theorem d_St_coder_0 : decode q_St_coder.2.1 0 = .ok (.getstatic 38, 3) := by decide +kernel
theorem gs_St_38 : Cond.fieldLink "java/lang/String" 38 "java/lang/String" "COMPACT_STRINGS" "Z" ∈ rx_gw := (rx_s2 203 rfl rfl)
theorem d_St_coder_3 : decode q_St_coder.2.1 3 = .ok (.ifCond .eq 10, 3) := by decide +kernel
theorem d_St_coder_6 : decode q_St_coder.2.1 6 = .ok (.aload_n 0, 1) := by decide +kernel
theorem d_St_coder_7 : decode q_St_coder.2.1 7 = .ok (.getfield 15, 3) := by decide +kernel
theorem gs_St_15 : Cond.fieldLink "java/lang/String" 15 "java/lang/String" "coder" "B" ∈ rx_gw := (rx_s7 167 rfl rfl)
theorem d_St_coder_10 : decode q_St_coder.2.1 10 = .ok (.goto 4, 3) := by decide +kernel
theorem d_St_coder_14 : decode q_St_coder.2.1 14 = .ok (.ireturn, 1) := by decide +kernel
theorem d_St_length_0 : decode q_St_length.2.1 0 = .ok (.aload_n 0, 1) := by decide +kernel
theorem d_St_length_1 : decode q_St_length.2.1 1 = .ok (.getfield 9, 3) := by decide +kernel
theorem gs_St_9 : Cond.fieldLink "java/lang/String" 9 "java/lang/String" "value" "[B" ∈ rx_gw := (rx_s7 168 rfl rfl)
theorem d_St_length_4 : decode q_St_length.2.1 4 = .ok (.arraylength, 1) := by decide +kernel
theorem d_St_length_5 : decode q_St_length.2.1 5 = .ok (.aload_n 0, 1) := by decide +kernel
theorem d_St_length_6 : decode q_St_length.2.1 6 = .ok (.invokevirtual 335, 3) := by decide +kernel
theorem ml_St_335 : rx_CV "java/lang/String" 335 q_St_coder 0 := ⟨⟨(rx_s2 209 rfl rfl), (rx_s2 210 rfl rfl), (rx_s2 211 rfl rfl)⟩, ⟨(rx_s1 14 rfl rfl), q_St_coder_k, ⟨by decide, by decide, by decide +kernel⟩, by decide⟩⟩
theorem d_St_length_9 : decode q_St_length.2.1 9 = .ok (.ishr, 1) := by decide +kernel
theorem d_St_length_10 : decode q_St_length.2.1 10 = .ok (.ireturn, 1) := by decide +kernel
theorem d_St_isLatin1_0 : decode q_St_isLatin1.2.1 0 = .ok (.getstatic 38, 3) := by decide +kernel
theorem d_St_isLatin1_3 : decode q_St_isLatin1.2.1 3 = .ok (.ifCond .eq 14, 3) := by decide +kernel
theorem d_St_isLatin1_6 : decode q_St_isLatin1.2.1 6 = .ok (.aload_n 0, 1) := by decide +kernel
theorem d_St_isLatin1_7 : decode q_St_isLatin1.2.1 7 = .ok (.getfield 15, 3) := by decide +kernel
theorem d_St_isLatin1_10 : decode q_St_isLatin1.2.1 10 = .ok (.ifCond .ne 7, 3) := by decide +kernel
theorem d_St_isLatin1_13 : decode q_St_isLatin1.2.1 13 = .ok (.iconst 1, 1) := by decide +kernel
theorem d_St_isLatin1_14 : decode q_St_isLatin1.2.1 14 = .ok (.goto 4, 3) := by decide +kernel
theorem d_St_isLatin1_18 : decode q_St_isLatin1.2.1 18 = .ok (.ireturn, 1) := by decide +kernel
theorem d_SL_indexOfChar_0 : decode q_SL_indexOfChar.2.1 0 = .ok (.iload_n 1, 1) := by decide +kernel
theorem d_SL_indexOfChar_1 : decode q_SL_indexOfChar.2.1 1 = .ok (.i2b, 1) := by decide +kernel
theorem d_SL_indexOfChar_2 : decode q_SL_indexOfChar.2.1 2 = .ok (.istore 4, 2) := by decide +kernel
theorem d_SL_indexOfChar_4 : decode q_SL_indexOfChar.2.1 4 = .ok (.iload_n 2, 1) := by decide +kernel
theorem d_SL_indexOfChar_5 : decode q_SL_indexOfChar.2.1 5 = .ok (.istore 5, 2) := by decide +kernel
theorem d_SL_indexOfChar_7 : decode q_SL_indexOfChar.2.1 7 = .ok (.iload 5, 2) := by decide +kernel
theorem d_SL_indexOfChar_9 : decode q_SL_indexOfChar.2.1 9 = .ok (.iload_n 3, 1) := by decide +kernel
theorem d_SL_indexOfChar_10 : decode q_SL_indexOfChar.2.1 10 = .ok (.if_icmp .ge 21, 3) := by decide +kernel
theorem d_SL_indexOfChar_31 : decode q_SL_indexOfChar.2.1 31 = .ok (.iconst (-1), 1) := by decide +kernel
theorem d_SL_indexOfChar_32 : decode q_SL_indexOfChar.2.1 32 = .ok (.ireturn, 1) := by decide +kernel
theorem d_SL_indexOfChar_13 : decode q_SL_indexOfChar.2.1 13 = .ok (.aload_n 0, 1) := by decide +kernel
theorem d_SL_indexOfChar_14 : decode q_SL_indexOfChar.2.1 14 = .ok (.iload 5, 2) := by decide +kernel
theorem d_SL_indexOfChar_16 : decode q_SL_indexOfChar.2.1 16 = .ok (.baload, 1) := by decide +kernel
theorem d_SL_indexOfChar_17 : decode q_SL_indexOfChar.2.1 17 = .ok (.iload 4, 2) := by decide +kernel
theorem d_SL_indexOfChar_19 : decode q_SL_indexOfChar.2.1 19 = .ok (.if_icmp .ne 6, 3) := by decide +kernel
theorem d_SL_indexOfChar_22 : decode q_SL_indexOfChar.2.1 22 = .ok (.iload 5, 2) := by decide +kernel
theorem d_SL_indexOfChar_24 : decode q_SL_indexOfChar.2.1 24 = .ok (.ireturn, 1) := by decide +kernel
theorem d_SL_indexOfChar_25 : decode q_SL_indexOfChar.2.1 25 = .ok (.iinc 5 1, 3) := by decide +kernel
theorem d_SL_indexOfChar_28 : decode q_SL_indexOfChar.2.1 28 = .ok (.goto (-21), 3) := by decide +kernel
theorem d_SL_indexOf_0 : decode q_SL_indexOf.2.1 0 = .ok (.iload_n 1, 1) := by decide +kernel
theorem d_SL_indexOf_1 : decode q_SL_indexOf.2.1 1 = .ok (.invokestatic 88, 3) := by decide +kernel
theorem ml_SL_88 : rx_CS "java/lang/StringLatin1" 88 q_SL_canEncode 1 := ⟨⟨(rx_s2 216 rfl rfl), (rx_s2 217 rfl rfl)⟩, ⟨(rx_s1 15 rfl rfl), q_SL_canEncode_k, ⟨by decide, by decide, by decide +kernel⟩, by decide⟩⟩
theorem d_SL_indexOf_4 : decode q_SL_indexOf.2.1 4 = .ok (.ifCond .ne 5, 3) := by decide +kernel
theorem d_SL_indexOf_7 : decode q_SL_indexOf.2.1 7 = .ok (.iconst (-1), 1) := by decide +kernel
theorem d_SL_indexOf_8 : decode q_SL_indexOf.2.1 8 = .ok (.ireturn, 1) := by decide +kernel
theorem d_SL_indexOf_9 : decode q_SL_indexOf.2.1 9 = .ok (.iload_n 2, 1) := by decide +kernel
theorem d_SL_indexOf_10 : decode q_SL_indexOf.2.1 10 = .ok (.iconst 0, 1) := by decide +kernel
theorem d_SL_indexOf_11 : decode q_SL_indexOf.2.1 11 = .ok (.invokestatic 92, 3) := by decide +kernel
theorem ml_SL_92 : rx_CS "java/lang/StringLatin1" 92 q_Mt_max 2 := ⟨⟨(rx_s2 219 rfl rfl), (rx_s2 220 rfl rfl)⟩, ⟨(rx_s1 16 rfl rfl), q_Mt_max_k, ⟨by decide, by decide, by decide +kernel⟩, by decide⟩⟩
theorem d_SL_indexOf_14 : decode q_SL_indexOf.2.1 14 = .ok (.istore_n 2, 1) := by decide +kernel
theorem d_SL_indexOf_15 : decode q_SL_indexOf.2.1 15 = .ok (.iload_n 3, 1) := by decide +kernel
theorem d_SL_indexOf_16 : decode q_SL_indexOf.2.1 16 = .ok (.aload_n 0, 1) := by decide +kernel
theorem d_SL_indexOf_17 : decode q_SL_indexOf.2.1 17 = .ok (.arraylength, 1) := by decide +kernel
theorem d_SL_indexOf_18 : decode q_SL_indexOf.2.1 18 = .ok (.invokestatic 38, 3) := by decide +kernel
theorem ml_SL_38 : rx_CS "java/lang/StringLatin1" 38 q_Mt_min 2 := ⟨⟨(rx_s2 222 rfl rfl), (rx_s2 223 rfl rfl)⟩, ⟨(rx_s1 16 rfl rfl), q_Mt_min_k, ⟨by decide, by decide, by decide +kernel⟩, by decide⟩⟩
theorem d_SL_indexOf_21 : decode q_SL_indexOf.2.1 21 = .ok (.istore_n 3, 1) := by decide +kernel
theorem d_SL_indexOf_22 : decode q_SL_indexOf.2.1 22 = .ok (.iload_n 2, 1) := by decide +kernel
theorem d_SL_indexOf_23 : decode q_SL_indexOf.2.1 23 = .ok (.iload_n 3, 1) := by decide +kernel
theorem d_SL_indexOf_24 : decode q_SL_indexOf.2.1 24 = .ok (.if_icmp .lt 5, 3) := by decide +kernel
theorem d_SL_indexOf_29 : decode q_SL_indexOf.2.1 29 = .ok (.aload_n 0, 1) := by decide +kernel
theorem d_SL_indexOf_30 : decode q_SL_indexOf.2.1 30 = .ok (.iload_n 1, 1) := by decide +kernel
theorem d_SL_indexOf_31 : decode q_SL_indexOf.2.1 31 = .ok (.iload_n 2, 1) := by decide +kernel
theorem d_SL_indexOf_32 : decode q_SL_indexOf.2.1 32 = .ok (.iload_n 3, 1) := by decide +kernel
theorem d_SL_indexOf_33 : decode q_SL_indexOf.2.1 33 = .ok (.invokestatic 95, 3) := by decide +kernel
theorem ml_SL_95 : rx_CS "java/lang/StringLatin1" 95 q_SL_indexOfChar 4 := ⟨⟨(rx_s2 225 rfl rfl), (rx_s2 226 rfl rfl)⟩, ⟨(rx_s1 15 rfl rfl), q_SL_indexOfChar_k, ⟨by decide, by decide, by decide +kernel⟩, by decide⟩⟩
theorem d_SL_indexOf_36 : decode q_SL_indexOf.2.1 36 = .ok (.ireturn, 1) := by decide +kernel
theorem d_SL_indexOf_27 : decode q_SL_indexOf.2.1 27 = .ok (.iconst (-1), 1) := by decide +kernel
theorem d_SL_indexOf_28 : decode q_SL_indexOf.2.1 28 = .ok (.ireturn, 1) := by decide +kernel
theorem d_St_indexOf1_0 : decode q_St_indexOf1.2.1 0 = .ok (.aload_n 0, 1) := by decide +kernel
theorem d_St_indexOf1_1 : decode q_St_indexOf1.2.1 1 = .ok (.invokevirtual 492, 3) := by decide +kernel
theorem ml_St_492 : rx_CV "java/lang/String" 492 q_St_isLatin1 0 := ⟨⟨(rx_s2 199 rfl rfl), (rx_s2 200 rfl rfl), (rx_s2 201 rfl rfl)⟩, ⟨(rx_s1 14 rfl rfl), q_St_isLatin1_k, ⟨by decide, by decide, by decide +kernel⟩, by decide⟩⟩
theorem d_St_indexOf1_4 : decode q_St_indexOf1.2.1 4 = .ok (.ifCond .eq 19, 3) := by decide +kernel
theorem d_St_indexOf1_7 : decode q_St_indexOf1.2.1 7 = .ok (.aload_n 0, 1) := by decide +kernel
theorem d_St_indexOf1_8 : decode q_St_indexOf1.2.1 8 = .ok (.getfield 9, 3) := by decide +kernel
theorem d_St_indexOf1_11 : decode q_St_indexOf1.2.1 11 = .ok (.iload_n 1, 1) := by decide +kernel
theorem d_St_indexOf1_12 : decode q_St_indexOf1.2.1 12 = .ok (.iload_n 2, 1) := by decide +kernel
theorem d_St_indexOf1_13 : decode q_St_indexOf1.2.1 13 = .ok (.aload_n 0, 1) := by decide +kernel
theorem d_St_indexOf1_14 : decode q_St_indexOf1.2.1 14 = .ok (.invokevirtual 505, 3) := by decide +kernel
theorem ml_St_505 : rx_CV "java/lang/String" 505 q_St_length 0 := ⟨⟨(rx_s2 205 rfl rfl), (rx_s2 206 rfl rfl), (rx_s2 207 rfl rfl)⟩, ⟨(rx_s1 14 rfl rfl), q_St_length_k, ⟨by decide, by decide, by decide +kernel⟩, by decide⟩⟩
theorem d_St_indexOf1_17 : decode q_St_indexOf1.2.1 17 = .ok (.invokestatic 637, 3) := by decide +kernel
theorem ml_St_637 : rx_CS "java/lang/String" 637 q_SL_indexOf 4 := ⟨⟨(rx_s2 213 rfl rfl), (rx_s2 214 rfl rfl)⟩, ⟨(rx_s1 15 rfl rfl), q_SL_indexOf_k, ⟨by decide, by decide, by decide +kernel⟩, by decide⟩⟩
theorem d_St_indexOf1_20 : decode q_St_indexOf1.2.1 20 = .ok (.goto 16, 3) := by decide +kernel
theorem d_St_indexOf1_36 : decode q_St_indexOf1.2.1 36 = .ok (.ireturn, 1) := by decide +kernel
theorem d_St_indexOf_0 : decode q_St_indexOf.2.1 0 = .ok (.aload_n 0, 1) := by decide +kernel
theorem d_St_indexOf_1 : decode q_St_indexOf.2.1 1 = .ok (.iload_n 1, 1) := by decide +kernel
theorem d_St_indexOf_2 : decode q_St_indexOf.2.1 2 = .ok (.iconst 0, 1) := by decide +kernel
theorem d_St_indexOf_3 : decode q_St_indexOf.2.1 3 = .ok (.invokevirtual 633, 3) := by decide +kernel
theorem ml_St_633 : rx_CV "java/lang/String" 633 q_St_indexOf1 2 := ⟨⟨(rx_s2 195 rfl rfl), (rx_s2 196 rfl rfl), (rx_s2 197 rfl rfl)⟩, ⟨(rx_s1 14 rfl rfl), q_St_indexOf1_k, ⟨by decide, by decide, by decide +kernel⟩, by decide⟩⟩
theorem d_St_indexOf_6 : decode q_St_indexOf.2.1 6 = .ok (.ireturn, 1) := by decide +kernel
set_option maxHeartbeats 4000000 in
set_option maxRecDepth 20000 in
theorem w_SL_canEncode {Ω : rx_Om} {G : rx_Gh} {hp : rx_Hp} {F : Int32 → rx_Hp → Prop} (a1 : Int32) (H : F ((if a1 < 0 then 0 else ((if 255 < a1 then 0 else 1) : Int32)) : Int32) hp) : Ev Ω G 1 q_SL_canEncode [.int a1] hp (rI F) := by
  refine ev_of rfl (Nat.le_of_ble_eq_true rfl) rfl ?_
  show Rn Ω G 1 q_SL_canEncode 0 [some (.int a1)] [] hp (rI F)
  have J1 : ∀ (v1_0 : Int32), v1_0 = ((if a1 < 0 then 0 else ((if 255 < a1 then 0 else 1) : Int32)) : Int32) → Rn Ω G 1 q_SL_canEncode 16 [some (.int a1)] [.int v1_0] hp (rI F) := by
    rintro _ rfl
    exact rZ_ret d_SL_canEncode_16 rfl (rb_ite (Or.inl rfl) (rb_ite (Or.inl rfl) (Or.inr rfl))) H
  refine r_iload_n (i := 0) d_SL_canEncode_0 rfl rfl ?_
  refine r_if_lt (tgt := 15) d_SL_canEncode_1 (by decide) (fun hc_1 => ?_) (fun hc_1 => ?_)
  · refine r_iconst d_SL_canEncode_15 ic_0 ?_
    exact J1 _ (((if_pos hc_1).trans rfl)).symm
  · refine r_iload_n (i := 0) d_SL_canEncode_4 rfl rfl ?_
    refine r_sipush d_SL_canEncode_5 sp_255 ?_
    refine r_icmp_gt (tgt := 15) d_SL_canEncode_8 (by decide) (fun hc_8 => ?_) (fun hc_8 => ?_)
    · refine r_iconst d_SL_canEncode_15 ic_0 ?_
      exact J1 _ (((if_neg hc_1).trans ((if_pos hc_8).trans rfl))).symm
    · refine r_iconst d_SL_canEncode_11 ic_1 ?_
      refine r_goto (tgt := 16) d_SL_canEncode_12 (by decide) ?_
      exact J1 _ (((if_neg hc_1).trans ((if_neg hc_8).trans rfl))).symm
def f_SL_canEncode (a1 : Int32) : Int32 := ((if a1 < 0 then 0 else ((if 255 < a1 then 0 else 1) : Int32)) : Int32)
theorem s_SL_canEncode {Ω : rx_Om} {G : rx_Gh} {hp : rx_Hp} {F : Int32 → rx_Hp → Prop} (a1 : Int32) (H0 : F (f_SL_canEncode a1) hp) : Ev Ω G 1 q_SL_canEncode [.int a1] hp (rI F) := by
  have H : ∀ v h, v = (f_SL_canEncode a1) → h = hp → F v h := by rintro _ _ rfl rfl; exact H0
  refine w_SL_canEncode a1  ?_
  exact H _ _ (rfl).symm (rfl).symm
theorem b_SL_canEncode (a1 : Int32) : (f_SL_canEncode a1) = 0 ∨ (f_SL_canEncode a1) = 1 := (rb_ite (Or.inl rfl) (rb_ite (Or.inl rfl) (Or.inr rfl)))
set_option maxHeartbeats 4000000 in
set_option maxRecDepth 20000 in
theorem w_St_coder_0 {G : rx_Gh} {hp : rx_Hp} {F : Int32 → rx_Hp → Prop}  (H : F 0 hp) : Ev wC G 1 q_St_coder [.ref (2000 + 0)] hp (rI F) := by
  refine ev_of rfl (Nat.le_of_ble_eq_true rfl) rfl ?_
  show Rn wC G 1 q_St_coder 0 [some (.ref (2000 + 0))] [] hp (rI F)
  refine r_getsZ d_St_coder_0 gs_St_38 ?_
  refine r_if_eq (tgt := 13) d_St_coder_3 (by decide) (fun h => absurd h (by decide)) (fun _ => ?_)
  refine r_aload_n (i := 0) d_St_coder_6 rfl rfl ?_
  refine r_getTc (t := 0) d_St_coder_7 (by decide) gs_St_15 ?_
  refine r_goto (tgt := 14) d_St_coder_10 (by decide) ?_
  exact rB_ret d_St_coder_14 rfl (by decide) H
theorem s_St_coder_0 {G : rx_Gh} {hp : rx_Hp} {F : Int32 → rx_Hp → Prop}  (H0 : F 0 hp) : Ev wC G 1 q_St_coder [.ref (2000 + 0)] hp (rI F) := by
  have H : ∀ v h, v = 0 → h = hp → F v h := by rintro _ _ rfl rfl; exact H0
  refine w_St_coder_0   ?_
  exact H _ _ (rfl).symm (rfl).symm
set_option maxHeartbeats 4000000 in
set_option maxRecDepth 20000 in
theorem w_St_length_0 {G : rx_Gh} {hp : rx_Hp} {F : Int32 → rx_Hp → Prop}  (H : F ((Int32.ofNat ([7, 6].getD 0 0)) >>> (0 &&& 31)) hp) : Ev wC G 2 q_St_length [.ref (2000 + 0)] hp (rI F) := by
  refine ev_of rfl (Nat.le_of_ble_eq_true rfl) rfl ?_
  show Rn wC G 2 q_St_length 0 [some (.ref (2000 + 0))] [] hp (rI F)
  refine r_aload_n (i := 0) d_St_length_0 rfl rfl ?_
  refine r_getTv (t := 0) d_St_length_1 (by decide) gs_St_9 ?_
  refine r_balen (t := 0) d_St_length_4 (by decide) rfl rfl ?_
  refine r_aload_n (i := 0) d_St_length_5 rfl rfl ?_
  refine rk_TI (t := 0) (d' := 1) [] [.int (Int32.ofNat ([7, 6].getD 0 0))] d_St_length_6 ml_St_335 rfl rfl (by decide) (by decide) rfl (Nat.le_of_ble_eq_true rfl) (s_St_coder_0  ?_)
  refine r_ishr d_St_length_9 ?_
  exact rI_ret d_St_length_10 rfl H
def f_St_length_0  : Int32 := (Int32.ofNat ([7, 6].getD 0 0)) >>> (0 &&& 31)
theorem s_St_length_0 {G : rx_Gh} {hp : rx_Hp} {F : Int32 → rx_Hp → Prop}  (H0 : F (f_St_length_0) hp) : Ev wC G 2 q_St_length [.ref (2000 + 0)] hp (rI F) := by
  have H : ∀ v h, v = (f_St_length_0) → h = hp → F v h := by rintro _ _ rfl rfl; exact H0
  refine w_St_length_0   ?_
  exact H _ _ (rfl).symm (rfl).symm
set_option maxHeartbeats 4000000 in
set_option maxRecDepth 20000 in
theorem w_St_isLatin1_0 {G : rx_Gh} {hp : rx_Hp} {F : Int32 → rx_Hp → Prop}  (H : F 1 hp) : Ev wC G 1 q_St_isLatin1 [.ref (2000 + 0)] hp (rI F) := by
  refine ev_of rfl (Nat.le_of_ble_eq_true rfl) rfl ?_
  show Rn wC G 1 q_St_isLatin1 0 [some (.ref (2000 + 0))] [] hp (rI F)
  refine r_getsZ d_St_isLatin1_0 gs_St_38 ?_
  refine r_if_eq (tgt := 17) d_St_isLatin1_3 (by decide) (fun h => absurd h (by decide)) (fun _ => ?_)
  refine r_aload_n (i := 0) d_St_isLatin1_6 rfl rfl ?_
  refine r_getTc (t := 0) d_St_isLatin1_7 (by decide) gs_St_15 ?_
  refine r_if_ne (tgt := 17) d_St_isLatin1_10 (by decide) (fun h => absurd (by decide) h) (fun _ => ?_)
  refine r_iconst d_St_isLatin1_13 ic_1 ?_
  refine r_goto (tgt := 18) d_St_isLatin1_14 (by decide) ?_
  exact rZ_ret d_St_isLatin1_18 rfl (Or.inr rfl) H
theorem s_St_isLatin1_0 {G : rx_Gh} {hp : rx_Hp} {F : Int32 → rx_Hp → Prop}  (H0 : F 1 hp) : Ev wC G 1 q_St_isLatin1 [.ref (2000 + 0)] hp (rI F) := by
  have H : ∀ v h, v = 1 → h = hp → F v h := by rintro _ _ rfl rfl; exact H0
  refine w_St_isLatin1_0   ?_
  exact H _ _ (rfl).symm (rfl).symm
set_option maxHeartbeats 4000000 in
set_option maxRecDepth 20000 in
theorem w_SL_indexOfChar_0 {G : rx_Gh} {hp : rx_Hp} {F : Int32 → rx_Hp → Prop} (a2 : Int32) (a3 : Int32) (a4 : Int32) (H : Rn wC G 1 q_SL_indexOfChar 7 [some (.ref (3000 + 0)), none, none, some (.int a4), some (.int a2.toInt8.toInt32), some (.int a3)] [] hp (rI F)) : Ev wC G 1 q_SL_indexOfChar [.ref (3000 + 0), .int a2, .int a3, .int a4] hp (rI F) := by
  refine ev_of rfl (Nat.le_of_ble_eq_true rfl) rfl ?_
  show Rn wC G 1 q_SL_indexOfChar 0 [some (.ref (3000 + 0)), some (.int a2), some (.int a3), some (.int a4), none, none] [] hp (rI F)
  refine r_iload_n (i := 1) d_SL_indexOfChar_0 rfl rfl ?_
  refine r_i2b d_SL_indexOfChar_1 ?_
  refine r_istore (lz := [some (.ref (3000 + 0)), some (.int a2), some (.int a3), some (.int a4), some (.int a2.toInt8.toInt32), none]) d_SL_indexOfChar_2 (by decide) rfl rfl ?_
  refine r_iload_n (i := 2) d_SL_indexOfChar_4 rfl rfl ?_
  refine r_istore (lz := [some (.ref (3000 + 0)), some (.int a2), some (.int a3), some (.int a4), some (.int a2.toInt8.toInt32), some (.int a3)]) d_SL_indexOfChar_5 (by decide) rfl rfl ?_
  exact rx_fgt [false, true, true] H
set_option maxHeartbeats 4000000 in
set_option maxRecDepth 20000 in
theorem w_SL_indexOfChar_0_7 {G : rx_Gh} {hp : rx_Hp} {F : Int32 → rx_Hp → Prop} (x3 : Int32) (x4 : Int32) (x5 : Int32) (H : (x3 ≤ x5 → F (-1) hp) ∧ (¬ x3 ≤ x5 → vp_in x5 ([7, 6].getD 0 0) ∧ ((((rx_byt.getD 0 []).getD x5.toNatClampNeg 0) = x4 → F x5 hp) ∧ (¬ ((rx_byt.getD 0 []).getD x5.toNatClampNeg 0) = x4 → Rn wC G 1 q_SL_indexOfChar 7 [some (.ref (3000 + 0)), none, none, some (.int x3), some (.int x4), some (.int (x5 + 1))] [] hp (rI F))))) : Rn wC G 1 q_SL_indexOfChar 7 [some (.ref (3000 + 0)), none, none, some (.int x3), some (.int x4), some (.int x5)] [] hp (rI F) := by
  refine r_iload d_SL_indexOfChar_7 rfl ?_
  refine r_iload_n (i := 3) d_SL_indexOfChar_9 rfl rfl ?_
  refine r_icmp_ge (tgt := 31) d_SL_indexOfChar_10 (by decide) (fun hc_10 => ?_) (fun hc_10 => ?_)
  · replace H := H.1 hc_10
    refine r_iconst d_SL_indexOfChar_31 ic_m1 ?_
    exact rI_ret d_SL_indexOfChar_32 rfl H
  · replace H := H.2 hc_10
    refine r_aload_n (i := 0) d_SL_indexOfChar_13 rfl rfl ?_
    refine r_iload d_SL_indexOfChar_14 rfl ?_
    obtain ⟨hi_16, H⟩ := H
    refine r_bald (t := 0) d_SL_indexOfChar_16 (by decide) rfl hi_16 rfl ?_
    refine r_iload d_SL_indexOfChar_17 rfl ?_
    refine r_icmp_ne (tgt := 25) d_SL_indexOfChar_19 (by decide) (fun hc_19 => ?_) (fun hc_19 => ?_)
    · replace H := H.2 hc_19
      refine r_iinc (v := x5 + 1) (lz := [some (.ref (3000 + 0)), none, none, some (.int x3), some (.int x4), some (.int (x5 + 1))]) d_SL_indexOfChar_25 rfl (by rw [ic_1]) (by decide) rfl rfl ?_
      refine r_goto (tgt := 7) d_SL_indexOfChar_28 (by decide) ?_
      exact H
    · replace H := H.1 hc_19
      refine r_iload d_SL_indexOfChar_22 rfl ?_
      exact rI_ret d_SL_indexOfChar_24 rfl H
set_option maxHeartbeats 4000000 in
set_option maxRecDepth 20000 in
theorem w_SL_indexOf_0 {G : rx_Gh} {hp : rx_Hp} {F : Int32 → rx_Hp → Prop} (a2 : Int32) (a3 : Int32) (a4 : Int32) (H : ((f_SL_canEncode a2) = 0 → F (-1) hp) ∧ (¬ (f_SL_canEncode a2) = 0 → ((f_Mt_max a3 0) < (f_Mt_min a4 (Int32.ofNat ([7, 6].getD 0 0))) → Ev wC G 1 q_SL_indexOfChar [.ref (3000 + 0), .int a2, .int (f_Mt_max a3 0), .int (f_Mt_min a4 (Int32.ofNat ([7, 6].getD 0 0)))] hp (rI fun r2 h1 => F r2 h1)) ∧ (¬ (f_Mt_max a3 0) < (f_Mt_min a4 (Int32.ofNat ([7, 6].getD 0 0))) → F (-1) hp))) : Ev wC G 2 q_SL_indexOf [.ref (3000 + 0), .int a2, .int a3, .int a4] hp (rI F) := by
  refine ev_of rfl (Nat.le_of_ble_eq_true rfl) rfl ?_
  show Rn wC G 2 q_SL_indexOf 0 [some (.ref (3000 + 0)), some (.int a2), some (.int a3), some (.int a4)] [] hp (rI F)
  refine r_iload_n (i := 1) d_SL_indexOf_0 rfl rfl ?_
  refine rk_SI (d' := 1) [.int a2] [] d_SL_indexOf_1 ml_SL_88 rfl rfl (by decide) (Nat.le_of_ble_eq_true rfl) (s_SL_canEncode a2 ?_)
  refine r_if_ne (tgt := 9) d_SL_indexOf_4 (by decide) (fun hc_4 => ?_) (fun hc_4 => ?_)
  · replace H := H.2 hc_4
    refine r_iload_n (i := 2) d_SL_indexOf_9 rfl rfl ?_
    refine r_iconst d_SL_indexOf_10 ic_0 ?_
    refine rk_SI (d' := 1) [.int a3, .int 0] [] d_SL_indexOf_11 ml_SL_92 rfl rfl (by decide) (Nat.le_of_ble_eq_true rfl) (s_Mt_max a3 0 ?_)
    refine r_istore_n (i := 2) (lz := [some (.ref (3000 + 0)), some (.int a2), some (.int (f_Mt_max a3 0)), some (.int a4)]) d_SL_indexOf_14 rfl (by decide) rfl rfl ?_
    refine r_iload_n (i := 3) d_SL_indexOf_15 rfl rfl ?_
    refine r_aload_n (i := 0) d_SL_indexOf_16 rfl rfl ?_
    refine r_balen (t := 0) d_SL_indexOf_17 (by decide) rfl rfl ?_
    refine rk_SI (d' := 1) [.int a4, .int (Int32.ofNat ([7, 6].getD 0 0))] [] d_SL_indexOf_18 ml_SL_38 rfl rfl (by decide) (Nat.le_of_ble_eq_true rfl) (s_Mt_min a4 (Int32.ofNat ([7, 6].getD 0 0)) ?_)
    refine r_istore_n (i := 3) (lz := [some (.ref (3000 + 0)), some (.int a2), some (.int (f_Mt_max a3 0)), some (.int (f_Mt_min a4 (Int32.ofNat ([7, 6].getD 0 0))))]) d_SL_indexOf_21 rfl (by decide) rfl rfl ?_
    refine r_iload_n (i := 2) d_SL_indexOf_22 rfl rfl ?_
    refine r_iload_n (i := 3) d_SL_indexOf_23 rfl rfl ?_
    refine r_icmp_lt (tgt := 29) d_SL_indexOf_24 (by decide) (fun hc_24 => ?_) (fun hc_24 => ?_)
    · replace H := H.1 hc_24
      refine r_aload_n (i := 0) d_SL_indexOf_29 rfl rfl ?_
      refine r_iload_n (i := 1) d_SL_indexOf_30 rfl rfl ?_
      refine r_iload_n (i := 2) d_SL_indexOf_31 rfl rfl ?_
      refine r_iload_n (i := 3) d_SL_indexOf_32 rfl rfl ?_
      refine rc_SI (d' := 1) [.ref (3000 + 0), .int a2, .int (f_Mt_max a3 0), .int (f_Mt_min a4 (Int32.ofNat ([7, 6].getD 0 0)))] [] d_SL_indexOf_33 ml_SL_95 rfl rfl (by decide) (Nat.le_of_ble_eq_true rfl) H ?_
      intro r2 h1 H
      exact rI_ret d_SL_indexOf_36 rfl H
    · replace H := H.2 hc_24
      refine r_iconst d_SL_indexOf_27 ic_m1 ?_
      exact rI_ret d_SL_indexOf_28 rfl H
  · replace H := H.1 hc_4
    refine r_iconst d_SL_indexOf_7 ic_m1 ?_
    exact rI_ret d_SL_indexOf_8 rfl H
set_option maxHeartbeats 4000000 in
set_option maxRecDepth 20000 in
theorem w_St_indexOf1_0 {G : rx_Gh} {hp : rx_Hp} {F : Int32 → rx_Hp → Prop} (a1 : Int32) (a2 : Int32) (H : Ev wC G 2 q_SL_indexOf [.ref (3000 + 0), .int a1, .int a2, .int (f_St_length_0)] hp (rI fun r2 h1 => F r2 h1)) : Ev wC G 6 q_St_indexOf1 [.ref (2000 + 0), .int a1, .int a2] hp (rI F) := by
  refine ev_of rfl (Nat.le_of_ble_eq_true rfl) rfl ?_
  show Rn wC G 6 q_St_indexOf1 0 [some (.ref (2000 + 0)), some (.int a1), some (.int a2)] [] hp (rI F)
  refine r_aload_n (i := 0) d_St_indexOf1_0 rfl rfl ?_
  refine rk_TI (t := 0) (d' := 1) [] [] d_St_indexOf1_1 ml_St_492 rfl rfl (by decide) (by decide) rfl (Nat.le_of_ble_eq_true rfl) (s_St_isLatin1_0  ?_)
  refine r_if_eq (tgt := 23) d_St_indexOf1_4 (by decide) (fun h => absurd h (by decide)) (fun _ => ?_)
  refine r_aload_n (i := 0) d_St_indexOf1_7 rfl rfl ?_
  refine r_getTv (t := 0) d_St_indexOf1_8 (by decide) gs_St_9 ?_
  refine r_iload_n (i := 1) d_St_indexOf1_11 rfl rfl ?_
  refine r_iload_n (i := 2) d_St_indexOf1_12 rfl rfl ?_
  refine r_aload_n (i := 0) d_St_indexOf1_13 rfl rfl ?_
  refine rk_TI (t := 0) (d' := 2) [] [.int a2, .int a1, .ref (3000 + 0)] d_St_indexOf1_14 ml_St_505 rfl rfl (by decide) (by decide) rfl (Nat.le_of_ble_eq_true rfl) (s_St_length_0  ?_)
  refine rc_SI (d' := 2) [.ref (3000 + 0), .int a1, .int a2, .int (f_St_length_0)] [] d_St_indexOf1_17 ml_St_637 rfl rfl (by decide) (Nat.le_of_ble_eq_true rfl) H ?_
  intro r2 h1 H
  refine r_goto (tgt := 36) d_St_indexOf1_20 (by decide) ?_
  exact rI_ret d_St_indexOf1_36 rfl H
set_option maxHeartbeats 4000000 in
set_option maxRecDepth 20000 in
theorem w_St_indexOf_0 {G : rx_Gh} {hp : rx_Hp} {F : Int32 → rx_Hp → Prop} (a1 : Int32) (H : Ev wC G 6 q_St_indexOf1 [.ref (2000 + 0), .int a1, .int 0] hp (rI fun r2 h1 => F r2 h1)) : Ev wC G 7 q_St_indexOf [.ref (2000 + 0), .int a1] hp (rI F) := by
  refine ev_of rfl (Nat.le_of_ble_eq_true rfl) rfl ?_
  show Rn wC G 7 q_St_indexOf 0 [some (.ref (2000 + 0)), some (.int a1)] [] hp (rI F)
  refine r_aload_n (i := 0) d_St_indexOf_0 rfl rfl ?_
  refine r_iload_n (i := 1) d_St_indexOf_1 rfl rfl ?_
  refine r_iconst d_St_indexOf_2 ic_0 ?_
  refine rc_TI (t := 0) (d' := 6) [.int a1, .int 0] [] d_St_indexOf_3 ml_St_633 rfl rfl (by decide) (by decide) rfl (Nat.le_of_ble_eq_true rfl) H ?_
  intro r2 h1 H
  exact rI_ret d_St_indexOf_6 rfl H
set_option maxHeartbeats 4000000 in
set_option maxRecDepth 20000 in
theorem w_St_coder_1 {G : rx_Gh} {hp : rx_Hp} {F : Int32 → rx_Hp → Prop}  (H : F 0 hp) : Ev wC G 1 q_St_coder [.ref (2000 + 1)] hp (rI F) := by
  refine ev_of rfl (Nat.le_of_ble_eq_true rfl) rfl ?_
  show Rn wC G 1 q_St_coder 0 [some (.ref (2000 + 1))] [] hp (rI F)
  refine r_getsZ d_St_coder_0 gs_St_38 ?_
  refine r_if_eq (tgt := 13) d_St_coder_3 (by decide) (fun h => absurd h (by decide)) (fun _ => ?_)
  refine r_aload_n (i := 0) d_St_coder_6 rfl rfl ?_
  refine r_getTc (t := 1) d_St_coder_7 (by decide) gs_St_15 ?_
  refine r_goto (tgt := 14) d_St_coder_10 (by decide) ?_
  exact rB_ret d_St_coder_14 rfl (by decide) H
theorem s_St_coder_1 {G : rx_Gh} {hp : rx_Hp} {F : Int32 → rx_Hp → Prop}  (H0 : F 0 hp) : Ev wC G 1 q_St_coder [.ref (2000 + 1)] hp (rI F) := by
  have H : ∀ v h, v = 0 → h = hp → F v h := by rintro _ _ rfl rfl; exact H0
  refine w_St_coder_1   ?_
  exact H _ _ (rfl).symm (rfl).symm
set_option maxHeartbeats 4000000 in
set_option maxRecDepth 20000 in
theorem w_St_length_1 {G : rx_Gh} {hp : rx_Hp} {F : Int32 → rx_Hp → Prop}  (H : F ((Int32.ofNat ([7, 6].getD 1 0)) >>> (0 &&& 31)) hp) : Ev wC G 2 q_St_length [.ref (2000 + 1)] hp (rI F) := by
  refine ev_of rfl (Nat.le_of_ble_eq_true rfl) rfl ?_
  show Rn wC G 2 q_St_length 0 [some (.ref (2000 + 1))] [] hp (rI F)
  refine r_aload_n (i := 0) d_St_length_0 rfl rfl ?_
  refine r_getTv (t := 1) d_St_length_1 (by decide) gs_St_9 ?_
  refine r_balen (t := 1) d_St_length_4 (by decide) rfl rfl ?_
  refine r_aload_n (i := 0) d_St_length_5 rfl rfl ?_
  refine rk_TI (t := 1) (d' := 1) [] [.int (Int32.ofNat ([7, 6].getD 1 0))] d_St_length_6 ml_St_335 rfl rfl (by decide) (by decide) rfl (Nat.le_of_ble_eq_true rfl) (s_St_coder_1  ?_)
  refine r_ishr d_St_length_9 ?_
  exact rI_ret d_St_length_10 rfl H
def f_St_length_1  : Int32 := (Int32.ofNat ([7, 6].getD 1 0)) >>> (0 &&& 31)
theorem s_St_length_1 {G : rx_Gh} {hp : rx_Hp} {F : Int32 → rx_Hp → Prop}  (H0 : F (f_St_length_1) hp) : Ev wC G 2 q_St_length [.ref (2000 + 1)] hp (rI F) := by
  have H : ∀ v h, v = (f_St_length_1) → h = hp → F v h := by rintro _ _ rfl rfl; exact H0
  refine w_St_length_1   ?_
  exact H _ _ (rfl).symm (rfl).symm
set_option maxHeartbeats 4000000 in
set_option maxRecDepth 20000 in
theorem w_St_isLatin1_1 {G : rx_Gh} {hp : rx_Hp} {F : Int32 → rx_Hp → Prop}  (H : F 1 hp) : Ev wC G 1 q_St_isLatin1 [.ref (2000 + 1)] hp (rI F) := by
  refine ev_of rfl (Nat.le_of_ble_eq_true rfl) rfl ?_
  show Rn wC G 1 q_St_isLatin1 0 [some (.ref (2000 + 1))] [] hp (rI F)
  refine r_getsZ d_St_isLatin1_0 gs_St_38 ?_
  refine r_if_eq (tgt := 17) d_St_isLatin1_3 (by decide) (fun h => absurd h (by decide)) (fun _ => ?_)
  refine r_aload_n (i := 0) d_St_isLatin1_6 rfl rfl ?_
  refine r_getTc (t := 1) d_St_isLatin1_7 (by decide) gs_St_15 ?_
  refine r_if_ne (tgt := 17) d_St_isLatin1_10 (by decide) (fun h => absurd (by decide) h) (fun _ => ?_)
  refine r_iconst d_St_isLatin1_13 ic_1 ?_
  refine r_goto (tgt := 18) d_St_isLatin1_14 (by decide) ?_
  exact rZ_ret d_St_isLatin1_18 rfl (Or.inr rfl) H
theorem s_St_isLatin1_1 {G : rx_Gh} {hp : rx_Hp} {F : Int32 → rx_Hp → Prop}  (H0 : F 1 hp) : Ev wC G 1 q_St_isLatin1 [.ref (2000 + 1)] hp (rI F) := by
  have H : ∀ v h, v = 1 → h = hp → F v h := by rintro _ _ rfl rfl; exact H0
  refine w_St_isLatin1_1   ?_
  exact H _ _ (rfl).symm (rfl).symm
set_option maxHeartbeats 4000000 in
set_option maxRecDepth 20000 in
theorem w_SL_indexOfChar_1 {G : rx_Gh} {hp : rx_Hp} {F : Int32 → rx_Hp → Prop} (a2 : Int32) (a3 : Int32) (a4 : Int32) (H : Rn wC G 1 q_SL_indexOfChar 7 [some (.ref (3000 + 1)), none, none, some (.int a4), some (.int a2.toInt8.toInt32), some (.int a3)] [] hp (rI F)) : Ev wC G 1 q_SL_indexOfChar [.ref (3000 + 1), .int a2, .int a3, .int a4] hp (rI F) := by
  refine ev_of rfl (Nat.le_of_ble_eq_true rfl) rfl ?_
  show Rn wC G 1 q_SL_indexOfChar 0 [some (.ref (3000 + 1)), some (.int a2), some (.int a3), some (.int a4), none, none] [] hp (rI F)
  refine r_iload_n (i := 1) d_SL_indexOfChar_0 rfl rfl ?_
  refine r_i2b d_SL_indexOfChar_1 ?_
  refine r_istore (lz := [some (.ref (3000 + 1)), some (.int a2), some (.int a3), some (.int a4), some (.int a2.toInt8.toInt32), none]) d_SL_indexOfChar_2 (by decide) rfl rfl ?_
  refine r_iload_n (i := 2) d_SL_indexOfChar_4 rfl rfl ?_
  refine r_istore (lz := [some (.ref (3000 + 1)), some (.int a2), some (.int a3), some (.int a4), some (.int a2.toInt8.toInt32), some (.int a3)]) d_SL_indexOfChar_5 (by decide) rfl rfl ?_
  exact rx_fgt [false, true, true] H
set_option maxHeartbeats 4000000 in
set_option maxRecDepth 20000 in
theorem w_SL_indexOfChar_1_7 {G : rx_Gh} {hp : rx_Hp} {F : Int32 → rx_Hp → Prop} (x3 : Int32) (x4 : Int32) (x5 : Int32) (H : (x3 ≤ x5 → F (-1) hp) ∧ (¬ x3 ≤ x5 → vp_in x5 ([7, 6].getD 1 0) ∧ ((((rx_byt.getD 1 []).getD x5.toNatClampNeg 0) = x4 → F x5 hp) ∧ (¬ ((rx_byt.getD 1 []).getD x5.toNatClampNeg 0) = x4 → Rn wC G 1 q_SL_indexOfChar 7 [some (.ref (3000 + 1)), none, none, some (.int x3), some (.int x4), some (.int (x5 + 1))] [] hp (rI F))))) : Rn wC G 1 q_SL_indexOfChar 7 [some (.ref (3000 + 1)), none, none, some (.int x3), some (.int x4), some (.int x5)] [] hp (rI F) := by
  refine r_iload d_SL_indexOfChar_7 rfl ?_
  refine r_iload_n (i := 3) d_SL_indexOfChar_9 rfl rfl ?_
  refine r_icmp_ge (tgt := 31) d_SL_indexOfChar_10 (by decide) (fun hc_10 => ?_) (fun hc_10 => ?_)
  · replace H := H.1 hc_10
    refine r_iconst d_SL_indexOfChar_31 ic_m1 ?_
    exact rI_ret d_SL_indexOfChar_32 rfl H
  · replace H := H.2 hc_10
    refine r_aload_n (i := 0) d_SL_indexOfChar_13 rfl rfl ?_
    refine r_iload d_SL_indexOfChar_14 rfl ?_
    obtain ⟨hi_16, H⟩ := H
    refine r_bald (t := 1) d_SL_indexOfChar_16 (by decide) rfl hi_16 rfl ?_
    refine r_iload d_SL_indexOfChar_17 rfl ?_
    refine r_icmp_ne (tgt := 25) d_SL_indexOfChar_19 (by decide) (fun hc_19 => ?_) (fun hc_19 => ?_)
    · replace H := H.2 hc_19
      refine r_iinc (v := x5 + 1) (lz := [some (.ref (3000 + 1)), none, none, some (.int x3), some (.int x4), some (.int (x5 + 1))]) d_SL_indexOfChar_25 rfl (by rw [ic_1]) (by decide) rfl rfl ?_
      refine r_goto (tgt := 7) d_SL_indexOfChar_28 (by decide) ?_
      exact H
    · replace H := H.1 hc_19
      refine r_iload d_SL_indexOfChar_22 rfl ?_
      exact rI_ret d_SL_indexOfChar_24 rfl H
set_option maxHeartbeats 4000000 in
set_option maxRecDepth 20000 in
theorem w_SL_indexOf_1 {G : rx_Gh} {hp : rx_Hp} {F : Int32 → rx_Hp → Prop} (a2 : Int32) (a3 : Int32) (a4 : Int32) (H : ((f_SL_canEncode a2) = 0 → F (-1) hp) ∧ (¬ (f_SL_canEncode a2) = 0 → ((f_Mt_max a3 0) < (f_Mt_min a4 (Int32.ofNat ([7, 6].getD 1 0))) → Ev wC G 1 q_SL_indexOfChar [.ref (3000 + 1), .int a2, .int (f_Mt_max a3 0), .int (f_Mt_min a4 (Int32.ofNat ([7, 6].getD 1 0)))] hp (rI fun r2 h1 => F r2 h1)) ∧ (¬ (f_Mt_max a3 0) < (f_Mt_min a4 (Int32.ofNat ([7, 6].getD 1 0))) → F (-1) hp))) : Ev wC G 2 q_SL_indexOf [.ref (3000 + 1), .int a2, .int a3, .int a4] hp (rI F) := by
  refine ev_of rfl (Nat.le_of_ble_eq_true rfl) rfl ?_
  show Rn wC G 2 q_SL_indexOf 0 [some (.ref (3000 + 1)), some (.int a2), some (.int a3), some (.int a4)] [] hp (rI F)
  refine r_iload_n (i := 1) d_SL_indexOf_0 rfl rfl ?_
  refine rk_SI (d' := 1) [.int a2] [] d_SL_indexOf_1 ml_SL_88 rfl rfl (by decide) (Nat.le_of_ble_eq_true rfl) (s_SL_canEncode a2 ?_)
  refine r_if_ne (tgt := 9) d_SL_indexOf_4 (by decide) (fun hc_4 => ?_) (fun hc_4 => ?_)
  · replace H := H.2 hc_4
    refine r_iload_n (i := 2) d_SL_indexOf_9 rfl rfl ?_
    refine r_iconst d_SL_indexOf_10 ic_0 ?_
    refine rk_SI (d' := 1) [.int a3, .int 0] [] d_SL_indexOf_11 ml_SL_92 rfl rfl (by decide) (Nat.le_of_ble_eq_true rfl) (s_Mt_max a3 0 ?_)
    refine r_istore_n (i := 2) (lz := [some (.ref (3000 + 1)), some (.int a2), some (.int (f_Mt_max a3 0)), some (.int a4)]) d_SL_indexOf_14 rfl (by decide) rfl rfl ?_
    refine r_iload_n (i := 3) d_SL_indexOf_15 rfl rfl ?_
    refine r_aload_n (i := 0) d_SL_indexOf_16 rfl rfl ?_
    refine r_balen (t := 1) d_SL_indexOf_17 (by decide) rfl rfl ?_
    refine rk_SI (d' := 1) [.int a4, .int (Int32.ofNat ([7, 6].getD 1 0))] [] d_SL_indexOf_18 ml_SL_38 rfl rfl (by decide) (Nat.le_of_ble_eq_true rfl) (s_Mt_min a4 (Int32.ofNat ([7, 6].getD 1 0)) ?_)
    refine r_istore_n (i := 3) (lz := [some (.ref (3000 + 1)), some (.int a2), some (.int (f_Mt_max a3 0)), some (.int (f_Mt_min a4 (Int32.ofNat ([7, 6].getD 1 0))))]) d_SL_indexOf_21 rfl (by decide) rfl rfl ?_
    refine r_iload_n (i := 2) d_SL_indexOf_22 rfl rfl ?_
    refine r_iload_n (i := 3) d_SL_indexOf_23 rfl rfl ?_
    refine r_icmp_lt (tgt := 29) d_SL_indexOf_24 (by decide) (fun hc_24 => ?_) (fun hc_24 => ?_)
    · replace H := H.1 hc_24
      refine r_aload_n (i := 0) d_SL_indexOf_29 rfl rfl ?_
      refine r_iload_n (i := 1) d_SL_indexOf_30 rfl rfl ?_
      refine r_iload_n (i := 2) d_SL_indexOf_31 rfl rfl ?_
      refine r_iload_n (i := 3) d_SL_indexOf_32 rfl rfl ?_
      refine rc_SI (d' := 1) [.ref (3000 + 1), .int a2, .int (f_Mt_max a3 0), .int (f_Mt_min a4 (Int32.ofNat ([7, 6].getD 1 0)))] [] d_SL_indexOf_33 ml_SL_95 rfl rfl (by decide) (Nat.le_of_ble_eq_true rfl) H ?_
      intro r2 h1 H
      exact rI_ret d_SL_indexOf_36 rfl H
    · replace H := H.2 hc_24
      refine r_iconst d_SL_indexOf_27 ic_m1 ?_
      exact rI_ret d_SL_indexOf_28 rfl H
  · replace H := H.1 hc_4
    refine r_iconst d_SL_indexOf_7 ic_m1 ?_
    exact rI_ret d_SL_indexOf_8 rfl H
set_option maxHeartbeats 4000000 in
set_option maxRecDepth 20000 in
theorem w_St_indexOf1_1 {G : rx_Gh} {hp : rx_Hp} {F : Int32 → rx_Hp → Prop} (a1 : Int32) (a2 : Int32) (H : Ev wC G 2 q_SL_indexOf [.ref (3000 + 1), .int a1, .int a2, .int (f_St_length_1)] hp (rI fun r2 h1 => F r2 h1)) : Ev wC G 6 q_St_indexOf1 [.ref (2000 + 1), .int a1, .int a2] hp (rI F) := by
  refine ev_of rfl (Nat.le_of_ble_eq_true rfl) rfl ?_
  show Rn wC G 6 q_St_indexOf1 0 [some (.ref (2000 + 1)), some (.int a1), some (.int a2)] [] hp (rI F)
  refine r_aload_n (i := 0) d_St_indexOf1_0 rfl rfl ?_
  refine rk_TI (t := 1) (d' := 1) [] [] d_St_indexOf1_1 ml_St_492 rfl rfl (by decide) (by decide) rfl (Nat.le_of_ble_eq_true rfl) (s_St_isLatin1_1  ?_)
  refine r_if_eq (tgt := 23) d_St_indexOf1_4 (by decide) (fun h => absurd h (by decide)) (fun _ => ?_)
  refine r_aload_n (i := 0) d_St_indexOf1_7 rfl rfl ?_
  refine r_getTv (t := 1) d_St_indexOf1_8 (by decide) gs_St_9 ?_
  refine r_iload_n (i := 1) d_St_indexOf1_11 rfl rfl ?_
  refine r_iload_n (i := 2) d_St_indexOf1_12 rfl rfl ?_
  refine r_aload_n (i := 0) d_St_indexOf1_13 rfl rfl ?_
  refine rk_TI (t := 1) (d' := 2) [] [.int a2, .int a1, .ref (3000 + 1)] d_St_indexOf1_14 ml_St_505 rfl rfl (by decide) (by decide) rfl (Nat.le_of_ble_eq_true rfl) (s_St_length_1  ?_)
  refine rc_SI (d' := 2) [.ref (3000 + 1), .int a1, .int a2, .int (f_St_length_1)] [] d_St_indexOf1_17 ml_St_637 rfl rfl (by decide) (Nat.le_of_ble_eq_true rfl) H ?_
  intro r2 h1 H
  refine r_goto (tgt := 36) d_St_indexOf1_20 (by decide) ?_
  exact rI_ret d_St_indexOf1_36 rfl H
set_option maxHeartbeats 4000000 in
set_option maxRecDepth 20000 in
theorem w_St_indexOf_1 {G : rx_Gh} {hp : rx_Hp} {F : Int32 → rx_Hp → Prop} (a1 : Int32) (H : Ev wC G 6 q_St_indexOf1 [.ref (2000 + 1), .int a1, .int 0] hp (rI fun r2 h1 => F r2 h1)) : Ev wC G 7 q_St_indexOf [.ref (2000 + 1), .int a1] hp (rI F) := by
  refine ev_of rfl (Nat.le_of_ble_eq_true rfl) rfl ?_
  show Rn wC G 7 q_St_indexOf 0 [some (.ref (2000 + 1)), some (.int a1)] [] hp (rI F)
  refine r_aload_n (i := 0) d_St_indexOf_0 rfl rfl ?_
  refine r_iload_n (i := 1) d_St_indexOf_1 rfl rfl ?_
  refine r_iconst d_St_indexOf_2 ic_0 ?_
  refine rc_TI (t := 1) (d' := 6) [.int a1, .int 0] [] d_St_indexOf_3 ml_St_633 rfl rfl (by decide) (by decide) rfl (Nat.le_of_ble_eq_true rfl) H ?_
  intro r2 h1 H
  exact rI_ret d_St_indexOf_6 rfl H

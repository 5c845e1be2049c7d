theorem d_M_image_0 : decode q_M_image.2.1 0 = .ok (.aload_n 0, 1) := by decide +kernel
theorem d_M_image_1 : decode q_M_image.2.1 1 = .ok (.iload_n 1, 1) := by decide +kernel
theorem d_M_image_2 : decode q_M_image.2.1 2 = .ok (.iload_n 2, 1) := by decide +kernel
theorem d_M_image_3 : decode q_M_image.2.1 3 = .ok (.iload_n 3, 1) := by decide +kernel
theorem d_M_image_4 : decode q_M_image.2.1 4 = .ok (.invokevirtual 305, 3) := by decide +kernel
theorem d_M_image_7 : decode q_M_image.2.1 7 = .ok (.ifCond .eq 13, 3) := by decide +kernel
theorem d_M_image_20 : decode q_M_image.2.1 20 = .ok (.ldc_w 308, 3) := by decide +kernel
theorem d_M_image_23 : decode q_M_image.2.1 23 = .ok (.ireturn, 1) := by decide +kernel
theorem d_M_image_10 : decode q_M_image.2.1 10 = .ok (.iload 4, 2) := by decide +kernel
theorem d_M_image_12 : decode q_M_image.2.1 12 = .ok (.iconst 0, 1) := by decide +kernel
theorem d_M_image_13 : decode q_M_image.2.1 13 = .ok (.iconst 4, 1) := by decide +kernel
theorem d_M_image_14 : decode q_M_image.2.1 14 = .ok (.invokestatic 198, 3) := by decide +kernel
theorem d_M_image_17 : decode q_M_image.2.1 17 = .ok (.ifCond .ne 7, 3) := by decide +kernel
theorem d_M_image_24 : decode q_M_image.2.1 24 = .ok (.iload 4, 2) := by decide +kernel
theorem d_M_image_26 : decode q_M_image.2.1 26 = .ok (.tableswitch 82 0 3 #[30, 37, 44, 72], 30) := by decide +kernel
theorem d_M_image_56 : decode q_M_image.2.1 56 = .ok (.aload_n 0, 1) := by decide +kernel
theorem d_M_image_57 : decode q_M_image.2.1 57 = .ok (.iload_n 1, 1) := by decide +kernel
theorem d_M_image_58 : decode q_M_image.2.1 58 = .ok (.iload_n 2, 1) := by decide +kernel
theorem d_M_image_59 : decode q_M_image.2.1 59 = .ok (.invokevirtual 299, 3) := by decide +kernel
theorem d_M_image_62 : decode q_M_image.2.1 62 = .ok (.ireturn, 1) := by decide +kernel
theorem d_M_image_63 : decode q_M_image.2.1 63 = .ok (.aload_n 0, 1) := by decide +kernel
theorem d_M_image_64 : decode q_M_image.2.1 64 = .ok (.iload_n 1, 1) := by decide +kernel
theorem d_M_image_65 : decode q_M_image.2.1 65 = .ok (.iload_n 3, 1) := by decide +kernel
theorem d_M_image_66 : decode q_M_image.2.1 66 = .ok (.invokevirtual 302, 3) := by decide +kernel
theorem d_M_image_69 : decode q_M_image.2.1 69 = .ok (.ireturn, 1) := by decide +kernel
theorem d_M_image_70 : decode q_M_image.2.1 70 = .ok (.iload_n 2, 1) := by decide +kernel
theorem d_M_image_71 : decode q_M_image.2.1 71 = .ok (.iload_n 3, 1) := by decide +kernel
theorem d_M_image_72 : decode q_M_image.2.1 72 = .ok (.invokestatic 309, 3) := by decide +kernel
theorem d_M_image_75 : decode q_M_image.2.1 75 = .ok (.iconst 2, 1) := by decide +kernel
theorem d_M_image_76 : decode q_M_image.2.1 76 = .ok (.irem, 1) := by decide +kernel
theorem d_M_image_77 : decode q_M_image.2.1 77 = .ok (.ifCond .ne 12, 3) := by decide +kernel
theorem d_M_image_80 : decode q_M_image.2.1 80 = .ok (.aload_n 0, 1) := by decide +kernel
theorem d_M_image_81 : decode q_M_image.2.1 81 = .ok (.getfield 52, 3) := by decide +kernel
theorem d_M_image_84 : decode q_M_image.2.1 84 = .ok (.iload_n 1, 1) := by decide +kernel
theorem d_M_image_85 : decode q_M_image.2.1 85 = .ok (.iaload, 1) := by decide +kernel
theorem d_M_image_86 : decode q_M_image.2.1 86 = .ok (.goto 11, 3) := by decide +kernel
theorem d_M_image_97 : decode q_M_image.2.1 97 = .ok (.ireturn, 1) := by decide +kernel
theorem d_M_image_89 : decode q_M_image.2.1 89 = .ok (.iconst 1, 1) := by decide +kernel
theorem d_M_image_90 : decode q_M_image.2.1 90 = .ok (.aload_n 0, 1) := by decide +kernel
theorem d_M_image_91 : decode q_M_image.2.1 91 = .ok (.getfield 52, 3) := by decide +kernel
theorem d_M_image_94 : decode q_M_image.2.1 94 = .ok (.iload_n 1, 1) := by decide +kernel
theorem d_M_image_95 : decode q_M_image.2.1 95 = .ok (.iaload, 1) := by decide +kernel
theorem d_M_image_96 : decode q_M_image.2.1 96 = .ok (.isub, 1) := by decide +kernel
theorem d_M_image_98 : decode q_M_image.2.1 98 = .ok (.aload_n 0, 1) := by decide +kernel
theorem d_M_image_99 : decode q_M_image.2.1 99 = .ok (.iload_n 2, 1) := by decide +kernel
theorem d_M_image_100 : decode q_M_image.2.1 100 = .ok (.iload_n 3, 1) := by decide +kernel
theorem d_M_image_101 : decode q_M_image.2.1 101 = .ok (.invokestatic 309, 3) := by decide +kernel
theorem d_M_image_104 : decode q_M_image.2.1 104 = .ok (.invokevirtual 312, 3) := by decide +kernel
theorem ml_M_312 : rx_CV "GlassRoomModel" 312 q_M_bright 1 := ⟨⟨(rx_s6 209 rfl rfl), (rx_s6 211 rfl rfl), (rx_s0 55 rfl rfl)⟩, ⟨(rx_s1 13 rfl rfl), q_M_bright_k, ⟨by decide, by decide, by decide +kernel⟩, by decide⟩⟩
theorem d_M_image_107 : decode q_M_image.2.1 107 = .ok (.ireturn, 1) := by decide +kernel
theorem d_M_image_108 : decode q_M_image.2.1 108 = .ok (.aload_n 0, 1) := by decide +kernel
theorem d_M_image_109 : decode q_M_image.2.1 109 = .ok (.iload_n 2, 1) := by decide +kernel
theorem d_M_image_110 : decode q_M_image.2.1 110 = .ok (.iload_n 3, 1) := by decide +kernel
theorem d_M_image_111 : decode q_M_image.2.1 111 = .ok (.invokevirtual 315, 3) := by decide +kernel
theorem d_M_image_114 : decode q_M_image.2.1 114 = .ok (.ifCond .eq 7, 3) := by decide +kernel
theorem d_M_image_121 : decode q_M_image.2.1 121 = .ok (.iconst 0, 1) := by decide +kernel
theorem d_M_image_117 : decode q_M_image.2.1 117 = .ok (.iconst 1, 1) := by decide +kernel
theorem d_M_image_118 : decode q_M_image.2.1 118 = .ok (.goto 4, 3) := by decide +kernel
theorem d_M_image_122 : decode q_M_image.2.1 122 = .ok (.ireturn, 1) := by decide +kernel
set_option maxHeartbeats 4000000 in
set_option maxRecDepth 20000 in
theorem w_M_image {G : rx_Gh} {hp : rx_Hp} {F : Int32 → rx_Hp → Prop} (a1 : Int32) (a2 : Int32) (a3 : Int32) (a4 : Int32) (H : ((f_M_isImage a1 a2 a3 hp) = 0 → F (-100000000) hp) ∧ (¬ (f_M_isImage a1 a2 a3 hp) = 0 → ((f_M_in a4 0 4) = 0 → F (-100000000) hp) ∧ (¬ (f_M_in a4 0 4) = 0 → (a4 = 0 → p_M_imageX a1 a2 ∧ (F (f_M_imageX a1 a2 hp) hp)) ∧ (a4 = 1 → p_M_imageY a1 a3 ∧ (F (f_M_imageY a1 a3 hp) hp)) ∧ (a4 = 2 → (((f_M_glasses a2 a3) - (f_M_glasses a2 a3) / 2 * 2) = 0 → vp_in a1 6 ∧ (F (hp.2.1 15 a1.toNatClampNeg) hp)) ∧ (¬ ((f_M_glasses a2 a3) - (f_M_glasses a2 a3) / 2 * 2) = 0 → vp_in a1 6 ∧ (F (1 - (hp.2.1 15 a1.toNatClampNeg)) hp))) ∧ (a4 = 3 → p_M_bright (f_M_glasses a2 a3) hp ∧ (F (f_M_bright (f_M_glasses a2 a3) hp) hp)) ∧ (¬ a4 = 0 → ¬ a4 = 1 → ¬ a4 = 2 → ¬ a4 = 3 → F ((if (f_M_isThere a2 a3 hp) = 0 then 0 else 1) : Int32) hp)))) : Ev wM G 4 q_M_image [.ref 0, .int a1, .int a2, .int a3, .int a4] hp (rI F) := by
  refine ev_of rfl (Nat.le_of_ble_eq_true rfl) rfl ?_
  show Rn wM G 4 q_M_image 0 [some (.ref 0), some (.int a1), some (.int a2), some (.int a3), some (.int a4)] [] hp (rI F)
  refine r_aload_n (i := 0) d_M_image_0 rfl rfl ?_
  refine r_iload_n (i := 1) d_M_image_1 rfl rfl ?_
  refine r_iload_n (i := 2) d_M_image_2 rfl rfl ?_
  refine r_iload_n (i := 3) d_M_image_3 rfl rfl ?_
  refine rk_VI (b := 0) (d' := 3) [.int a1, .int a2, .int a3] [] d_M_image_4 ml_M_305 rfl rfl (by decide) (by decide) rfl rfl (Nat.le_of_ble_eq_true rfl) (s_M_isImage a1 a2 a3 ?_)
  refine r_if_eq (tgt := 20) d_M_image_7 (by decide) (fun hc_7 => ?_) (fun hc_7 => ?_)
  · replace H := H.1 hc_7
    refine r_ldcw d_M_image_20 ck_M_308 ?_
    exact rI_ret d_M_image_23 rfl H
  · replace H := H.2 hc_7
    refine r_iload d_M_image_10 rfl ?_
    refine r_iconst d_M_image_12 ic_0 ?_
    refine r_iconst d_M_image_13 ic_4 ?_
    refine rk_SI (d' := 1) [.int a4, .int 0, .int 4] [] d_M_image_14 ml_M_198 rfl rfl (by decide) (Nat.le_of_ble_eq_true rfl) (s_M_in a4 0 4 ?_)
    refine r_if_ne (tgt := 24) d_M_image_17 (by decide) (fun hc_17 => ?_) (fun hc_17 => ?_)
    · replace H := H.2 hc_17
      refine r_iload d_M_image_24 rfl ?_
      by_cases hs_26_0 : a4 = 0
      · replace H := H.1 hs_26_0
        refine r_tabIn (off := 30) (tgt := 56) d_M_image_26 (by rw [hs_26_0]; decide) (by rw [hs_26_0]; decide) (by rw [hs_26_0]; decide) (by decide) ?_
        refine r_aload_n (i := 0) d_M_image_56 rfl rfl ?_
        refine r_iload_n (i := 1) d_M_image_57 rfl rfl ?_
        refine r_iload_n (i := 2) d_M_image_58 rfl rfl ?_
        obtain ⟨hp_59_0, H⟩ := H
        refine rk_VI (b := 0) (d' := 2) [.int a1, .int a2] [] d_M_image_59 ml_M_299 rfl rfl (by decide) (by decide) rfl rfl (Nat.le_of_ble_eq_true rfl) (s_M_imageX a1 a2 hp_59_0 ?_)
        exact rI_ret d_M_image_62 rfl H
      by_cases hs_26_1 : a4 = 1
      · replace H := H.2.1 hs_26_1
        refine r_tabIn (off := 37) (tgt := 63) d_M_image_26 (by rw [hs_26_1]; decide) (by rw [hs_26_1]; decide) (by rw [hs_26_1]; decide) (by decide) ?_
        refine r_aload_n (i := 0) d_M_image_63 rfl rfl ?_
        refine r_iload_n (i := 1) d_M_image_64 rfl rfl ?_
        refine r_iload_n (i := 3) d_M_image_65 rfl rfl ?_
        obtain ⟨hp_66_0, H⟩ := H
        refine rk_VI (b := 0) (d' := 2) [.int a1, .int a3] [] d_M_image_66 ml_M_302 rfl rfl (by decide) (by decide) rfl rfl (Nat.le_of_ble_eq_true rfl) (s_M_imageY a1 a3 hp_66_0 ?_)
        exact rI_ret d_M_image_69 rfl H
      by_cases hs_26_2 : a4 = 2
      · replace H := H.2.2.1 hs_26_2
        refine r_tabIn (off := 44) (tgt := 70) d_M_image_26 (by rw [hs_26_2]; decide) (by rw [hs_26_2]; decide) (by rw [hs_26_2]; decide) (by decide) ?_
        refine r_iload_n (i := 2) d_M_image_70 rfl rfl ?_
        refine r_iload_n (i := 3) d_M_image_71 rfl rfl ?_
        refine rk_SI (d' := 2) [.int a2, .int a3] [] d_M_image_72 ml_M_309 rfl rfl (by decide) (Nat.le_of_ble_eq_true rfl) (s_M_glasses a2 a3 ?_)
        refine r_iconst d_M_image_75 ic_2 ?_
        refine r_irem d_M_image_76 (by decide) ?_
        refine r_if_ne (tgt := 89) d_M_image_77 (by decide) (fun hc_77 => ?_) (fun hc_77 => ?_)
        · replace H := H.2 hc_77
          refine r_iconst d_M_image_89 ic_1 ?_
          refine r_aload_n (i := 0) d_M_image_90 rfl rfl ?_
          refine r_getR (b := 0) (r := 15) d_M_image_91 fl_M_52 (by decide) rfl rfl rfl ?_
          refine r_iload_n (i := 1) d_M_image_94 rfl rfl ?_
          obtain ⟨hi_95, H⟩ := H
          refine r_iald (b := 15) (v := hp.2.1 15 a1.toNatClampNeg) d_M_image_95 (by decide) rfl hi_95 rfl ?_
          refine r_isub d_M_image_96 ?_
          exact rI_ret d_M_image_97 rfl H
        · replace H := H.1 hc_77
          refine r_aload_n (i := 0) d_M_image_80 rfl rfl ?_
          refine r_getR (b := 0) (r := 15) d_M_image_81 fl_M_52 (by decide) rfl rfl rfl ?_
          refine r_iload_n (i := 1) d_M_image_84 rfl rfl ?_
          obtain ⟨hi_85, H⟩ := H
          refine r_iald (b := 15) (v := hp.2.1 15 a1.toNatClampNeg) d_M_image_85 (by decide) rfl hi_85 rfl ?_
          refine r_goto (tgt := 97) d_M_image_86 (by decide) ?_
          exact rI_ret d_M_image_97 rfl H
      by_cases hs_26_3 : a4 = 3
      · replace H := H.2.2.2.1 hs_26_3
        refine r_tabIn (off := 72) (tgt := 98) d_M_image_26 (by rw [hs_26_3]; decide) (by rw [hs_26_3]; decide) (by rw [hs_26_3]; decide) (by decide) ?_
        refine r_aload_n (i := 0) d_M_image_98 rfl rfl ?_
        refine r_iload_n (i := 2) d_M_image_99 rfl rfl ?_
        refine r_iload_n (i := 3) d_M_image_100 rfl rfl ?_
        refine rk_SI (d' := 2) [.int a2, .int a3] [.ref 0] d_M_image_101 ml_M_309 rfl rfl (by decide) (Nat.le_of_ble_eq_true rfl) (s_M_glasses a2 a3 ?_)
        obtain ⟨hp_104_0, H⟩ := H
        refine rk_VI (b := 0) (d' := 1) [.int (f_M_glasses a2 a3)] [] d_M_image_104 ml_M_312 rfl rfl (by decide) (by decide) rfl rfl (Nat.le_of_ble_eq_true rfl) (s_M_bright (f_M_glasses a2 a3) hp_104_0 ?_)
        exact rI_ret d_M_image_107 rfl H
      replace H := H.2.2.2.2 hs_26_0 hs_26_1 hs_26_2 hs_26_3
      refine r_tabOut (tgt := 108) d_M_image_26 (rx_tab (lo := 0) (hi := 3) (by decide) (by decide) (fun i h1 h2 => ?_)) (by decide) ?_
      · have hz : i = 0 ∨ i = 1 ∨ i = 2 ∨ i = 3 := by omega
        rcases hz with rfl | rfl | rfl | rfl
        · exact hs_26_0
        · exact hs_26_1
        · exact hs_26_2
        · exact hs_26_3
      have J114 : ∀ (v114_0 : Int32), v114_0 = ((if (f_M_isThere a2 a3 hp) = 0 then 0 else 1) : Int32) → Rn wM G 4 q_M_image 122 [some (.ref 0), some (.int a1), some (.int a2), some (.int a3), some (.int a4)] [.int v114_0] hp (rI F) := by
        rintro _ rfl
        exact rI_ret d_M_image_122 rfl H
      refine r_aload_n (i := 0) d_M_image_108 rfl rfl ?_
      refine r_iload_n (i := 2) d_M_image_109 rfl rfl ?_
      refine r_iload_n (i := 3) d_M_image_110 rfl rfl ?_
      refine rk_VI (b := 0) (d' := 3) [.int a2, .int a3] [] d_M_image_111 ml_M_315 rfl rfl (by decide) (by decide) rfl rfl (Nat.le_of_ble_eq_true rfl) (s_M_isThere a2 a3 ?_)
      refine r_if_eq (tgt := 121) d_M_image_114 (by decide) (fun hc_114 => ?_) (fun hc_114 => ?_)
      · refine r_iconst d_M_image_121 ic_0 ?_
        exact J114 _ (((if_pos hc_114).trans rfl)).symm
      · refine r_iconst d_M_image_117 ic_1 ?_
        refine r_goto (tgt := 122) d_M_image_118 (by decide) ?_
        exact J114 _ (((if_neg hc_114).trans rfl)).symm
    · replace H := H.1 hc_17
      refine r_ldcw d_M_image_20 ck_M_308 ?_
      exact rI_ret d_M_image_23 rfl H
def f_M_image (a1 : Int32) (a2 : Int32) (a3 : Int32) (a4 : Int32) (hp : rx_Hp) : Int32 := (if (f_M_isImage a1 a2 a3 hp) = 0 then (-100000000) else (if (f_M_in a4 0 4) = 0 then (-100000000) else (if a4 = 0 then (f_M_imageX a1 a2 hp) else (if a4 = 1 then (f_M_imageY a1 a3 hp) else (if a4 = 2 then (if ((f_M_glasses a2 a3) - (f_M_glasses a2 a3) / 2 * 2) = 0 then (hp.2.1 15 a1.toNatClampNeg) else (1 - (hp.2.1 15 a1.toNatClampNeg))) else (if a4 = 3 then (f_M_bright (f_M_glasses a2 a3) hp) else ((if (f_M_isThere a2 a3 hp) = 0 then 0 else 1) : Int32)))))))
def p_M_image (a1 : Int32) (a2 : Int32) (a3 : Int32) (a4 : Int32) (hp : rx_Hp) : Prop := (¬ (f_M_isImage a1 a2 a3 hp) = 0 → (¬ (f_M_in a4 0 4) = 0 → (a4 = 0 → p_M_imageX a1 a2) ∧ (a4 = 1 → p_M_imageY a1 a3) ∧ (a4 = 2 → (((f_M_glasses a2 a3) - (f_M_glasses a2 a3) / 2 * 2) = 0 → vp_in a1 6) ∧ (¬ ((f_M_glasses a2 a3) - (f_M_glasses a2 a3) / 2 * 2) = 0 → vp_in a1 6)) ∧ (a4 = 3 → p_M_bright (f_M_glasses a2 a3) hp)))
theorem s_M_image {G : rx_Gh} {hp : rx_Hp} {F : Int32 → rx_Hp → Prop} (a1 : Int32) (a2 : Int32) (a3 : Int32) (a4 : Int32) (hP : (p_M_image a1 a2 a3 a4 hp)) (H0 : F (f_M_image a1 a2 a3 a4 hp) hp) : Ev wM G 4 q_M_image [.ref 0, .int a1, .int a2, .int a3, .int a4] hp (rI F) := by
  have H : ∀ v h, v = (f_M_image a1 a2 a3 a4 hp) → h = hp → F v h := by rintro _ _ rfl rfl; exact H0
  unfold p_M_image at hP
  refine w_M_image a1 a2 a3 a4  ?_
  refine ⟨fun hc_7 => ?_, fun hc_7 => ?_⟩
  · exact H _ _ (((if_pos hc_7).trans rfl)).symm (rfl).symm
  · refine ⟨fun hc_17 => ?_, fun hc_17 => ?_⟩
    · exact H _ _ (((if_neg hc_7).trans ((if_pos hc_17).trans rfl))).symm (rfl).symm
    · refine ⟨fun s0 => ?_, fun s1 => ?_, fun s2 => ?_, fun s3 => ?_, fun s0 s1 s2 s3 => ?_⟩
      · refine ⟨(((hP hc_7) hc_17).1 s0), ?_⟩
        exact H _ _ (((if_neg hc_7).trans ((if_neg hc_17).trans ((if_pos s0).trans rfl)))).symm (rfl).symm
      · refine ⟨(((hP hc_7) hc_17).2.1 s1), ?_⟩
        exact H _ _ (((if_neg hc_7).trans ((if_neg hc_17).trans ((if_neg (rx_ne s1 (by decide))).trans ((if_pos s1).trans rfl))))).symm (rfl).symm
      · refine ⟨fun hc_77 => ?_, fun hc_77 => ?_⟩
        · refine ⟨((((hP hc_7) hc_17).2.2.1 s2).1 hc_77), ?_⟩
          exact H _ _ (((if_neg hc_7).trans ((if_neg hc_17).trans ((if_neg (rx_ne s2 (by decide))).trans ((if_neg (rx_ne s2 (by decide))).trans ((if_pos s2).trans ((if_pos hc_77).trans rfl))))))).symm (rfl).symm
        · refine ⟨((((hP hc_7) hc_17).2.2.1 s2).2 hc_77), ?_⟩
          exact H _ _ (((if_neg hc_7).trans ((if_neg hc_17).trans ((if_neg (rx_ne s2 (by decide))).trans ((if_neg (rx_ne s2 (by decide))).trans ((if_pos s2).trans ((if_neg hc_77).trans rfl))))))).symm (rfl).symm
      · refine ⟨(((hP hc_7) hc_17).2.2.2 s3), ?_⟩
        exact H _ _ (((if_neg hc_7).trans ((if_neg hc_17).trans ((if_neg (rx_ne s3 (by decide))).trans ((if_neg (rx_ne s3 (by decide))).trans ((if_neg (rx_ne s3 (by decide))).trans ((if_pos s3).trans rfl))))))).symm (rfl).symm
      · exact H _ _ (((if_neg hc_7).trans ((if_neg hc_17).trans ((if_neg s0).trans ((if_neg s1).trans ((if_neg s2).trans ((if_neg s3).trans rfl))))))).symm (rfl).symm

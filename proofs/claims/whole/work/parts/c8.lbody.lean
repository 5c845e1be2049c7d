/-! the law's body(): both ways -/
section LBW
variable {G : rx_Gh} {nb w h g t : Nat} {X Y A : Nat → Nat} {hc : rx_Hp} {o : Nat} {cO : ClassId} {f : Nat → Int64} {b k : Int32}
theorem lb_ls {ls : Array Slot} {x0 : Nat} (hl : lv_has ls 5 [(0, .ref x0), (1, .int b), (2, .int k), (3, .ref o)]) : ls[0]? = some (.val (.ref x0)) ∧ ls[1]? = some (.val (.int b)) ∧ ls[2]? = some (.val (.int k)) ∧ ls[3]? = some (.val (.ref o)) :=
  ⟨hl.2.2 (0, .ref x0) (List.mem_of_getElem? (i := 0) rfl), hl.2.2 (1, .int b) (List.mem_of_getElem? (i := 1) rfl), hl.2.2 (2, .int k) (List.mem_of_getElem? (i := 2) rfl), hl.2.2 (3, .ref o) (List.mem_of_getElem? (i := 3) rfl)⟩
theorem lb_in {own : String} {idx : Nat} {y : rx_Mi} {n : Nat} (hC : rx_CV own idx y n) : ∀ w ∈ wsV own idx y.1.cls y.1 (rx_ws y), w ∈ rx_gw := by
  obtain ⟨⟨k1, k2, k3⟩, k4, k5, k6, k7⟩ := hC
  intro w hw
  rcases List.mem_append.mp hw with h | h
  · simp only [List.mem_cons, List.not_mem_nil, or_false] at h
    rcases h with rfl | rfl | rfl | rfl
    · exact k1
    · exact k2
    · exact k3
    · exact k4
  · rcases List.mem_cons.mp h with rfl | h
    · exact k5
    · exact h
theorem lb_a (ok : HOk nb w h g t X Y A) (HH : HC nb w h g t X Y A hc) (ho : ¬ rx_A wC G o) (hb : bodI nb b k = true) : Met G.1 yL_body lb_ws lb_r0 (va_Pc [.ref (G.2.2.1 0), .int b, .int k, .ref o] (lb_B G hc o cO f)) (lb_Q G hc o cO 0 (vp_updL f (0 : Int32).toNatClampNeg (A_body X Y A b k).toInt64)) 0 0 (lb_A G o) := by
  refine lb_of fun p e s m args below meth c ls C hl hB => ?_
  obtain ⟨l0, l1, l2, l3⟩ := lb_ls hl
  obtain ⟨fix, hret, hlk, htab⟩ := C
  obtain ⟨⟨⟨v0, v1, v2, v3, v4, v5⟩, v6⟩, v7, v8⟩ := hB
  have hE : Ev wC G 3 q_GR_body [.ref 0, .int b, .int k] hc (rI fun x h' => x = A_body X Y A b k ∧ h' = hc) := a_body_c ok HH b k hb ⟨rfl, rfl⟩
  refine lv_aload_n (i := 3) fix.1 fix.2.1 dL_body_0 rfl l3 ?_
  refine lv_iconst (v := 0) fix.1 fix.2.1 dL_body_1 (by decide) ?_
  refine lv_aload_n (i := 0) fix.1 fix.2.1 dL_body_2 rfl l0 ?_
  refine lv_iload_n (i := 1) fix.1 fix.2.1 dL_body_3 rfl l1 ?_
  refine lv_iload_n (i := 2) fix.1 fix.2.1 dL_body_4 rfl l2 ?_
  have hcl : rx_cell wC G hc 0 = .inr (11, rx_fs wC G.2.2.1 hc 0 (rx_sh 11)) := rfl
  refine lw_go (Ω := wC) (G := G) (A0 := lb_A G o) (Q' := rI fun x h' => x = A_body X Y A b k ∧ h' = hc) (va_runV (As := [Value.int b, .int k]) (b := G.2.2.1 0) (rest := [.int 0, .ref o]) (nL := 5) (Ts := rx_gw) (own := "GlassRoomLaw") (C := q_GR_body.1.cls) (n := 2) (index := 7) fix hE
    (cwV 2 fix.2.2.2.2 (rx_good (lb_in ml_L_7)) rfl rfl rfl ⟨rfl, ml_L_7.2.2.2.1⟩ ⟨by decide, by decide⟩) ⟨rx_blind, ?_, fun U hU hW => ⟨rfl, ?_⟩⟩ rfl rfl hl.1 rfl (lv_room (st := [.int 0, .ref o]) (show 1 + (1 + 0) ≤ 8 from by decide)) dL_body_5 ⟨by decide, by decide⟩) va_S.rf (fun q hq => Or.inl hq)
    (fun r hp' H1 locs1 hq hP1 hk1 hz hS1 => ?_)
  · exact va_recv (s := s) (H := s.heap) v3 v2 rfl (by rw [rx_wd_get (k := 0) (show 0 < 50 from by decide), hcl])
  · refine ⟨by rw [hU]; exact v0, v1, by rw [hU]; exact v2, va_K.moved hW.alike v3, ?_, rx_Rs.warm hW v5⟩
    rw [hU]
    exact rx_St.moved hW.alike v4
  · obtain ⟨v, rfl, rfl, rfl⟩ := hq
    have v7' : va_P G.2.1 vwCl (lb_o o cO f) H1 := lb_keep v7 (hk1 o (lb_lt v7) ho)
    refine lv_i2l fix.1 fix.2.1 dL_body_8 rfl ?_
    refine W.last fix.1 fix.2.1 (v7' 0 _ rfl) ((v8.2 0 _ rfl).1 1 (fun j => .long (f j))) (fun q => by cases q) (by show ¬ ((0 : Int32) < 0 ∨ (arrV _ _ _).slots.size ≤ _); rw [arrV_size]; exact (show ¬ ((0 : Int32) < 0 ∨ 1 ≤ (0 : Int32).toNatClampNeg) from by decide)) rfl rfl dL_body_9 fun H2 e2 z oq => ?_
    have hS2 := hS1.put z oq (show lb_A G o o from Or.inr rfl) (k := (0 : Int32).toNatClampNeg)
    refine lv_goto (tgt := 17) fix.1 fix.2.1 dL_body_10 (show ((10 : Nat) : Int) + 7 = ((17 : Nat) : Int) from by decide) ?_
    refine lv_iconst (v := 0) fix.1 fix.2.1 dL_body_17 (by decide) ?_
    refine W.iret fix.1 fix.2.1 hret (fun t ht hW => ⟨rfl, ?_, ?_, hS2.F ht⟩) hS2.2.2 dL_body_18 hlk
    · rw [ht]
      exact hP1.kept fun j q hq => oq q.1 fun z => (by
        have h9 := (rx_D v1).2 j q hq
        rw [show q.1 = o from z] at h9
        exact ho h9)
    · rw [ht]
      intro j q hq
      have h1 : j < 1 := (List.getElem?_eq_some_iff.mp hq).1
      rw [show j = 0 by omega] at hq
      cases hq
      show H2[o]? = some (vp_cell _ _)
      rw [e2]
      rw [vp_cell_l, vp_cell_l, arrV_store]
      congr 2
      funext j
      by_cases hj : j = (0 : Int32).toNatClampNeg
      · subst hj
        simp [updV, vp_updL]
      · have hj' : ¬ j = 0 := fun z => hj (z.trans (show 0 = (0 : Int32).toNatClampNeg from by decide))
        simp [updV, vp_updL, hj']
theorem lb_b (ok : HOk nb w h g t X Y A) (HH : HC nb w h g t X Y A hc) (hst : G.1.stackTraces = false) (ho : ¬ rx_A wC G o) (hb : ¬ bodI nb b k = true) : Met G.1 yL_body lb_ws lb_r1 (va_Pc [.ref (G.2.2.1 0), .int b, .int k, .ref o] (lb_B G hc o cO f)) (lb_Q G hc o cO 1 f) 1 6 (lb_A G o) := by
  refine lb_of fun p e s m args below meth c ls C hl hB => ?_
  obtain ⟨l0, l1, l2, l3⟩ := lb_ls hl
  obtain ⟨fix, hret, hlk, htab⟩ := C
  obtain ⟨⟨⟨v0, v1, v2, v3, v4, v5⟩, v6⟩, v7, v8⟩ := hB
  refine lv_aload_n (i := 3) fix.1 fix.2.1 dL_body_0 rfl l3 ?_
  refine lv_iconst (v := 0) fix.1 fix.2.1 dL_body_1 (by decide) ?_
  refine lv_aload_n (i := 0) fix.1 fix.2.1 dL_body_2 rfl l0 ?_
  refine lv_iload_n (i := 1) fix.1 fix.2.1 dL_body_3 rfl l1 ?_
  refine lv_iload_n (i := 2) fix.1 fix.2.1 dL_body_4 rfl l2 ?_
  have hcl : rx_cell wC G hc 0 = .inr (11, rx_fs wC G.2.2.1 hc 0 (rx_sh 11)) := rfl
  have hr := vx_runV (p := p) (l := G.1) (e := e) (R := lb_r1) (s := s) (m := m) (args := args) (below := below) (meth := meth) (c := c) (H := s.heap) (locs := []) (cells := 0) (slots := 0) (As := [Value.int b, .int k]) (b := G.2.2.1 0) (rest := [.int 0, .ref o]) (nL := 5) (Ts := rx_gw) (own := "GlassRoomLaw") (C := q_GR_body.1.cls) (n := 2) (index := 7) (g := F0 m 5 ls [.int k, .int b, .ref (G.2.2.1 0), .int 0, .ref o]) fix (bx_met (bx_walk hst ok HH b k hb))
    (cwV 2 fix.2.2.2.2 (rx_good (lb_in ml_L_7)) rfl rfl rfl ⟨rfl, ml_L_7.2.2.2.1⟩ ⟨by decide, by decide⟩) ⟨bx_blind, va_recv (s := s) (H := s.heap) v3 v2 rfl (by rw [rx_wd_get (k := 0) (show 0 < 50 from by decide), hcl]), fun U hU hW => ⟨rfl, ⟨by rw [hU]; exact v0, v1, by rw [hU]; exact v2, va_K.moved hW.alike v3, (by rw [hU]; exact rx_St.moved hW.alike v4), rx_Rs.warm hW v5⟩, (by rw [hU]; exact v6.warm hW)⟩⟩ rfl rfl hl.1 rfl (lv_room (st := [.int 0, .ref o]) (show 1 + (1 + 0) ≤ 8 from by decide)) dL_body_5 ⟨by decide, by decide⟩
  intro T hT XX
  rcases hr T hT XX with ⟨v, st₀, t, T', L, h0, X', hL, e1, e2, hq, st⟩ | ⟨q, st₀, t, T', L, E, ce, h0, X', hL, e1, e2, ⟨rfl, hp, hF⟩, hce, hcv, hcls, st⟩
  · exact hq.elim
  · obtain ⟨k1, k2, k3⟩ := vx_keep (A0 := lb_A G o) (A1 := rx_A wC G) (free := rx_A wC G) h0 e1 va_S.rf (fun q _ hq => Or.inl hq) (fun q hq => Or.inl hq) hL hF
    have kw : W p G.1 e lb_r1 s m args below meth c T'.heap ([] ++ L) (0 + 1) (0 + 6) (MQ below (lb_Q G hc o cO 1 f) args s 1 6 (lb_A G o)) (F0 m 13 ls [.ref q]) := by
      refine lv_astore fix.1 fix.2.1 dL_body_13 hl (by decide) rfl (fun ls1 hl1 => ?_)
      refine lv_iconst (v := 1) fix.1 fix.2.1 dL_body_15 (by decide) ?_
      refine W.iret fix.1 fix.2.1 hret (fun t2 ht hW => ⟨rfl, ?_, ?_, k3.F ht⟩) k3.2.2 dL_body_16 hlk
      · rw [ht, e1]
        exact hp
      · rw [ht]
        exact lb_keep v7 (k2 o (lb_lt v7) ho)
    have kx : vx_W p G.1 e lb_r1 s m args below meth c T'.heap ([] ++ L) (0 + 1) (0 + 6) (MQ below (lb_Q G hc o cO 1 f) args s 1 6 (lb_A G o)) (F0 m 5 ls [.int 0, .ref o]) q :=
      vk_catch (own := "GlassRoomLaw") (name := tx_X) (E := tx_X) (x := { startPc := 0, endPc := 10, handlerPc := 13, catchType := 13 }) fix.2.2.2.1 htab (by decide) (by decide) (fix.2.2.2.2 _ ((rx_s5 23 rfl rfl))) (va_Nw.use rfl (v6.2.2 (.castable tx_X tx_X) (by decide +kernel))) (by rw [e1]; exact hce) hcv hcls kw
    obtain ⟨t2, a1, b1⟩ := kx T' rfl X'
    exact ⟨t2, st.trans a1, b1⟩
end LBW

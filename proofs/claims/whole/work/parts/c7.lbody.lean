/-! body's throw, its contract; the law's own body() -/
theorem d_GR_body_20 : decode q_GR_body.2.1 20 = .ok (.new 148, 3) := by decide +kernel
theorem d_GR_body_23 : decode q_GR_body.2.1 23 = .ok (.dup, 1) := by decide +kernel
theorem d_GR_body_24 : decode q_GR_body.2.1 24 = .ok (.ldc 150, 2) := by decide +kernel
theorem d_GR_body_26 : decode q_GR_body.2.1 26 = .ok (.invokespecial 152, 3) := by decide +kernel
theorem d_GR_body_29 : decode q_GR_body.2.1 29 = .ok (.athrow, 1) := by decide +kernel
theorem x_throw {G : rx_Gh} {hp : rx_Hp} {lv : List (Option Value)} (hl : G.1.stackTraces = false) : Rx G hp 20 lv [] := by
  intro p e s m args below meth c H locs ls C hls hP hS
  refine tx_throw (A := rx_A wC G) (text := "no such body, or nothing of it has this number") (sa := G.2.2.1 2002) C.1.1 C.1.2.1 hl C.1.2.2.2.2.1 C.1.2.2.2.2.2.1 C.1.2.2.2.2.2.2.2.2.2.2.1.1.2.2 C.2.1 hS (hls.1.trans C.1.2.2.2.1.symm) (rx_s5 28 rfl rfl) (rx_s1 23 rfl rfl)
    d_GR_body_20 d_GR_body_23 d_GR_body_24 d_GR_body_26 d_GR_body_29 (fun x hx => (C.2.2 x hx).elim) (by decide) (show 0 + 82 ≤ 640 from by decide) (by decide) (by decide) C.1.2.2.2.2.2.2.1 (fun t _ h1 h2 => ?_) hS.2.2 (by decide) (by decide)
  exact ⟨rfl, hP.kept (fun k q hq => h2 q.1 (hP k q hq).lt), Nat.le_trans hS.1 h1, fun q h3 h4 => (h2 q (Nat.lt_of_lt_of_le h3 hS.1)).trans (hS.2.1 q h3 h4)⟩
theorem bx_walk {G : rx_Gh} {nb w h g t : Nat} {X Y A : Nat → Nat} {hc : rx_Hp} (hl : G.1.stackTraces = false) (ok : HOk nb w h g t X Y A) (H : HC nb w h g t X Y A hc) (b k : Int32) (hb : ¬ bodI nb b k = true) : Rx G hc 0 [some (.ref 0), some (.int b), some (.int k)] [] := by
  have h6 := ok.1
  refine x_aload_n (i := 0) d_GR_body_0 rfl rfl ?_
  refine x_getR (b := 0) (r := 3) d_GR_body_1 fl_GR_19 (by decide) rfl rfl rfl ?_
  refine x_iload_n (i := 1) d_GR_body_4 rfl rfl ?_
  refine x_has d_GR_body_5 ?_
  rw [has_c h6 H.1.1]
  refine x_if_eq (tgt := 20) d_GR_body_8 (by decide) (fun _ => x_throw hl) (fun h0 => ?_)
  refine x_iload_n (i := 2) d_GR_body_11 rfl rfl ?_
  refine x_if_lt (tgt := 20) d_GR_body_12 (by decide) (fun _ => x_throw hl) (fun h1 => ?_)
  refine x_iload_n (i := 2) d_GR_body_15 rfl rfl ?_
  refine x_iconst d_GR_body_16 ic_2 ?_
  refine x_icmp_le (tgt := 30) d_GR_body_17 (by decide) (fun h2 => ?_) (fun _ => x_throw hl)
  refine absurd ?_ hb
  have e1 := i_lt k 0 (by omega)
  have e2 := i_le k 2 (by omega)
  have g1 : ¬ k.toInt < 0 := fun z => h1 (e1.mpr z)
  have g2 : k.toInt ≤ 2 := e2.mp h2
  unfold bodI
  cases hi : isB nb b with
  | false => rw [hi] at h0; exact absurd rfl h0
  | true => rw [decide_eq_true (by omega : 0 ≤ k.toInt), decide_eq_true g2]; rfl
theorem bx_met {G : rx_Gh} {hc : rx_Hp} {b k : Int32} (h : Rx G hc 0 [some (.ref 0), some (.int b), some (.int k)] []) : vx_Met G.1 q_GR_body.1 (rx_ws q_GR_body) bx_rm (va_Pc [.ref (G.2.2.1 0), .int b, .int k] (bx_B G hc)) (fun _ _ _ _ => False) (bx_X G hc) 1 6 (rx_A wC G) := by
  refine vx_ofW (cc := q_GR_body.2.1) (maxL := q_GR_body.2.2.1) (ret := q_GR_body.2.2.2) rfl rfl ?_
  intro p e s m args below meth c s₁ B hml ht hv
  obtain ⟨rfl, ⟨v0, v1, v2, v3, v4, v5⟩, v6⟩ := hv
  have hts := atoms_spec (ws := rx_ws q_GR_body) B.pre
  have hl := lv_entry [Value.ref (G.2.2.1 0), .int b, .int k] (n := q_GR_body.2.2.1) (show 3 ≤ 3 from Nat.le_refl 3)
  rw [lg_entry_eq]
  generalize (lg_sl [Value.ref (G.2.2.1 0), .int b, .int k] ++ List.replicate (q_GR_body.2.2.1 - (lg_sl [Value.ref (G.2.2.1 0), .int b, .int k]).length) Slot.unset).toArray = ls at hl ⊢
  exact h p e s m _ below meth c s.heap [] ls ⟨⟨B.exec, B.bytes, B.returns, hml, findClass_of_methodNamed B.named, fun w hw => hts w (List.mem_cons_of_mem _ hw), B.notSynchronized, v1, v3, v4, v5, v0⟩, v6, ht⟩ hl v2 va_S.rf
theorem bx_blind {G : rx_Gh} {hp : rx_Hp} {as : List Value} : FrameBlind (va_Pc as (bx_B G hp)) := by
  intro a U g mk h
  obtain ⟨h0, h1, h2⟩ := h
  exact ⟨h0, (rx_blind a U g mk ⟨h0, h1⟩).2, tx_Z.same (s := U) (U := U.calling g mk a) rfl h2⟩
def lb_hh : List (Nat × Nat × Nat × Nat) := [(0, 10, 13, 13)]
def lb_ws : List Cond := .codeWith yL_body cL_body 5 (some .int) lb_hh :: rx_gw
def lb_r0 : Room := { frames := 14, cells := 0, slots := 0, locals := 700 }
def lb_r1 : Room := { frames := 14, cells := 1, slots := 6, locals := 700 }
abbrev lb_o (o : Nat) (cO : ClassId) (f : Nat → Int64) : va_W := [(o, .inl (cO, 1, .inr (.inl f)))]
def lb_A (G : rx_Gh) (o : Nat) : Nat → Prop := fun q => rx_A wC G q ∨ q = o
def lb_B (G : rx_Gh) (hc : rx_Hp) (o : Nat) (cO : ClassId) (f : Nat → Int64) (U : State) : Prop := bx_B G hc U ∧ va_P G.2.1 vwCl (lb_o o cO f) U.heap ∧ va_K G.2.1 vwCl [(cO, .long)] U
def lb_Q (G : rx_Gh) (hc : rx_Hp) (o : Nat) (cO : ClassId) (v : Int32) (f : Nat → Int64) : Array Value → State → Outcome → State → Prop := fun _ st oc t => oc = .returned (some (.int v)) ∧ va_P G.2.1 vwCl (rx_wd wC G hc) t.heap ∧ va_P G.2.1 vwCl (lb_o o cO f) t.heap ∧ va_F (lb_A G o) st t
theorem lb_blind {G : rx_Gh} {hp : rx_Hp} {o : Nat} {cO : ClassId} {f : Nat → Int64} {as : List Value} : FrameBlind (va_Pc as (lb_B G hp o cO f)) := by
  intro a U g mk h
  obtain ⟨h0, h1, h2, h3⟩ := h
  exact ⟨h0, (bx_blind a U g mk ⟨h0, h1⟩).2, h2, va_K.moved (u := U) (U := U.calling g mk a) (Vm.Alike.refl U.vm) h3⟩
theorem lb_D {o : Nat} {cO : ClassId} {f : Nat → Int64} {A : Nat → Prop} (hA : A o) : va_D A (lb_o o cO f) := by
  refine ⟨fun i j x y hi hj _ => ?_, fun k q hk => ?_⟩
  · have h1 : i < 1 := (List.getElem?_eq_some_iff.mp hi).1
    have h2 : j < 1 := (List.getElem?_eq_some_iff.mp hj).1
    omega
  · have h1 : k < 1 := (List.getElem?_eq_some_iff.mp hk).1
    rw [show k = 0 by omega] at hk
    cases hk
    exact hA
theorem lb_keep {D : va_G} {o : Nat} {cO : ClassId} {f : Nat → Int64} {H H1 : Heap} (h : va_P D vwCl (lb_o o cO f) H) (hq : H1[o]? = H[o]?) : va_P D vwCl (lb_o o cO f) H1 := h.kept fun k q hk => by
  have h1 : k < 1 := (List.getElem?_eq_some_iff.mp hk).1
  rw [show k = 0 by omega] at hk
  cases hk
  exact hq
theorem lb_lt {D : va_G} {o : Nat} {cO : ClassId} {f : Nat → Int64} {H : Heap} (h : va_P D vwCl (lb_o o cO f) H) : o < H.size := (h 0 _ rfl).lt
/-- the method's facts inside of the law's body() -/
def lb_C (p : Program) (s : State) (m : MethodId) (args : Array Value) (meth : Method) (c : Code) : Prop := CallFix p m c cL_body 5 s args rx_gw "GlassRoomLaw" ∧ meth.sig.returnType = some .int ∧ meth.locks = false ∧ c.exceptionTable.toList = tableOf lb_hh
theorem lb_of {G : rx_Gh} {rm : Room} {mc ms : Nat} {hc : rx_Hp} {o : Nat} {cO : ClassId} {f : Nat → Int64} {b k : Int32} {Qc : Array Value → State → Outcome → State → Prop}
    (h : ∀ (p : Program) (e : Env) (s : State) (m : MethodId) (args : Array Value) (below : List Frame) (meth : Method) (c : Code) (ls : Array Slot), lb_C p s m args meth c → lv_has ls 5 [(0, .ref (G.2.2.1 0)), (1, .int b), (2, .int k), (3, .ref o)] → lb_B G hc o cO f s → W p G.1 e rm s m args below meth c s.heap [] 0 0 (MQ below Qc args s mc ms (lb_A G o)) (F0 m 0 ls [])) :
    Met G.1 yL_body lb_ws rm (va_Pc [.ref (G.2.2.1 0), .int b, .int k, .ref o] (lb_B G hc o cO f)) Qc mc ms (lb_A G o) := by
  refine va_MetW (cc := cL_body) (maxL := 5) (ret := some .int) (hh := lb_hh) rfl rfl ?_
  intro p e s m args below meth c s₁ B hml hv
  obtain ⟨rfl, v0⟩ := hv
  have hts := atoms_spec (ws := lb_ws) B.pre
  have hl := lv_entry [Value.ref (G.2.2.1 0), .int b, .int k, .ref o] (n := 5) (show 4 ≤ 5 from by decide)
  rw [lg_entry_eq]
  generalize (lg_sl [Value.ref (G.2.2.1 0), .int b, .int k, .ref o] ++ List.replicate (5 - (lg_sl [Value.ref (G.2.2.1 0), .int b, .int k, .ref o]).length) Slot.unset).toArray = ls at hl ⊢
  exact h p e s m _ below meth c ls ⟨⟨B.exec, B.bytes, hml, findClass_of_methodNamed B.named, fun w hw => hts w (List.mem_cons_of_mem _ hw)⟩, B.returns, B.notSynchronized, vx_table (x := yL_body) B (hts _ List.mem_cons_self)⟩ hl v0

/-! constructors: calls, entry, rows of lights, the static row -/
section RCC
variable {G : rx_Gh} {R : Room} {mc ms : Nat} {q : rx_Mi} {A : Nat → Prop} {ty : rc_T} {pc : Nat} {lv : List (Option Value)} {st : List Value} {ws : va_W} {ce sl : Nat} {Q : rc_T → va_W → Prop}
theorem rc_blind {as : List Value} {sz : Nat} {w : va_W} : FrameBlind (va_Pc as (fun U => U.heap.size = sz ∧ va_P G.2.1 vwCl w U.heap ∧ va_K G.2.1 vwCl (rc_I G) U ∧ rx_St G (rc_A0 G) U U.heap ∧ rc_O U)) := by
  intro a U g mk h
  obtain ⟨h0, h1, h2, h3, h4, h5⟩ := h
  exact ⟨h0, h1, h2, va_K.moved (u := U) (U := U.calling g mk a) (Vm.Alike.refl U.vm) h3, rx_St.moved (u := U) (U := U.calling g mk a) (Vm.Alike.refl U.vm) h4, rc_O.same (u := U) (U := U.calling g mk a) rfl h5⟩
theorem ec_of {h0 sz : Nat} {As : List Value} {x0 : va_E} (h1 : G.2.2.2.2.2 ≤ h0) (h2 : G.2.2.2.2.2 ≤ sz) (hpl : plainFor q.1 = true) (hnm : q.1.name = "<init>") (hlen : (lg_sl (.ref h0 :: As)).length ≤ q.2.2.1) (hc : (Value.ref h0 :: As).all rx_nd = true) (hid : (Value.ref h0 :: As).map (rx_tr id) = .ref h0 :: As) (h : Rc G R mc ms q (va_A [(h0, x0)] sz) (rc_I G) 0 (rx_ent (.ref h0 :: As) ++ List.replicate (q.2.2.1 - (rx_ent (.ref h0 :: As)).length) none) [] [(h0, x0)] 0 0 Q) : Ec G R mc ms q h0 As x0 sz Q := by
  refine rx_ofW (cc := q.2.1) (maxL := q.2.2.1) (ret := q.2.2.2) hpl rfl ?_
  intro p e s m args below meth c s₁ B hml hv
  obtain ⟨rfl, v0, v1, v2, v3, v4⟩ := hv
  subst v0
  have hts := atoms_spec (ws := rx_ws q) B.pre
  have hl := lv_entry (.ref h0 :: As) (n := q.2.2.1) hlen
  rw [lg_entry_eq]
  generalize (lg_sl (.ref h0 :: As) ++ List.replicate (q.2.2.1 - (lg_sl (.ref h0 :: As)).length) Slot.unset).toArray = ls at hl ⊢
  refine h p e s m _ below meth c s.heap [] ls ⟨⟨B.exec, B.bytes, B.returns, hml, findClass_of_methodNamed B.named, fun w hw => hts w (List.mem_cons_of_mem _ hw), B.notSynchronized, (name_of_methodNamed B.named B.method).1.trans hnm, v3, v4⟩, v2⟩ ⟨fun z hz => Or.inr hz, fun z hz => ?_⟩ ?_ v1 ?_ va_S.rf
  · rcases hz with ⟨k, e, hk⟩ | hz
    · cases k with
      | zero => have := congrArg Prod.fst (Option.some.inj hk); omega
      | succ k => cases hk
    · omega
  · rw [rx_lv_app]
    refine ⟨hl.1, hl.2.1, fun z hz => hl.2.2 z ?_⟩
    have := rx_ent_mem id (.ref h0 :: As) 0 (rx_nd_of hc) z hz
    rw [hid] at this
    exact this
  · refine ⟨fun i j x y hi hj _ => ?_, fun k z hk => va_A.in hk⟩
    have a1 := (List.getElem?_eq_some_iff.mp hi).1
    have a2 := (List.getElem?_eq_some_iff.mp hj).1
    rw [List.length_singleton] at a1 a2
    omega
theorem rng_map (wr : va_W) (x : Nat × va_E) : (List.range wr.length).map (fun i => (wr ++ [x])[i]?) = wr.map some := by
  apply List.ext_getElem?
  intro i
  by_cases h : i < wr.length
  · rw [List.getElem?_map, List.getElem?_range h, List.getElem?_map, List.getElem?_eq_getElem h]
    show some ((wr ++ [x])[i]?) = _
    rw [List.getElem?_append_left h, List.getElem?_eq_getElem h]; rfl
  · rw [List.getElem?_eq_none (by simp; omega), List.getElem?_eq_none (by simp; omega)]
theorem rng_nd (l : List Nat) (h : l.Nodup) : va_nd l = true := by
  induction l with
  | nil => rfl
  | cons a l ih =>
    have := List.nodup_cons.mp h
    unfold va_nd
    rw [ih this.2, decide_eq_true this.1]; rfl
theorem c_call {y : rx_Mi} {b idx n mc' ms' : Nat} {As : List Value} {x0 : va_E} {R' : Room} {Q' : rc_T → va_W → Prop} {wr : va_W} (hd : decode q.2.1 pc = .ok (.invokespecial idx, 3)) (hC : rc_C q.1.cls idx y n) (hn : As.length = n) (hI : ty[0]? = some (G.2.2.2.1, .int)) (hE : ∀ sz, G.2.2.2.2.2 ≤ b → G.2.2.2.2.2 ≤ sz → Ec G R' mc' ms' y b As x0 sz Q') (hrc : R'.cells = mc') (hrs : R'.slots = ms') (hRf : R'.frames + 1 ≤ R.frames) (hRl : 8 + (y.2.2.1 + 11) + R'.locals ≤ R.locals) (hw : ws = wr ++ [(b, x0)]) (hsum : (st.map fun v => v.category).sum ≤ 8) (hc : ce + mc' ≤ R.cells) (hs : sl + ms' ≤ R.slots)
    (k : ∀ (t1 : rc_T) (w1 : va_W), Q' t1 w1 → Rc G R mc ms q A ty (pc + 3) lv st (wr ++ w1) (ce + mc') (sl + ms') Q) {st0 : List Value} (hst : As.reverse ++ .ref b :: st = st0) : Rc G R mc ms q A ty pc lv st0 ws ce sl Q := by
  intro p e s m args below meth c H locs ls C hA hl hP hD hS
  obtain ⟨⟨k1, k2, k3, k4⟩, k5, k6, k7, k8⟩ := hC
  subst hw hst
  have hat : (wr ++ [(b, x0)])[wr.length]? = some (b, x0) := by rw [List.getElem?_append_right (Nat.le_refl _), Nat.sub_self]; rfl
  have hbA : A b := hD.2 wr.length _ hat
  have g1 := hA.2 b hbA
  have g2 : G.2.2.2.2.2 ≤ H.size := Nat.le_trans (hA.2 _ (hA.1 s.heap.size (Nat.le_refl _))) hS.1
  have hPc : va_P G.2.1 vwCl [(b, x0)] H := hP.sub (ws' := [(b, x0)]) [wr.length] (by rw [List.filterMap_cons, hat]; rfl)
  have hCm : [wr.length].map (fun i => (wr ++ [(b, x0)])[i]?) = [(b, x0)].map some := by show [(wr ++ [(b, x0)])[wr.length]?] = _; rw [hat]; rfl
  have hFc := va_free (wc := [(b, x0)]) hD hS hA.1 [wr.length] hCm
  have hK0 : va_K G.2.1 vwCl (rc_I G) s := ⟨C.2.1, fun k x hx => by
    cases k with
    | zero => cases hx; exact C.2.2 0 _ hI
    | succ k => cases hx⟩
  have hg : GoodIn rx_gw (rx_ws y) := rx_good (fun w hw => by
    rcases List.mem_cons.mp hw with rfl | h
    · exact k6
    · exact h)
  have hpre : PreS s H (va_Pc (.ref b :: As) (fun U => U.heap.size = H.size ∧ va_P G.2.1 vwCl [(b, x0)] U.heap ∧ va_K G.2.1 vwCl (rc_I G) U ∧ rx_St G (rc_A0 G) U U.heap ∧ rc_O U)) (.ref b :: As) := by
    refine ⟨rc_blind, fun U hU hW => ⟨rfl, by rw [hU], by rw [hU]; exact hPc, va_K.moved hW.alike hK0, ?_, rc_O.warm hW C.1.2.2.2.2.2.2.2.2.2⟩⟩
    rw [hU]
    exact rx_St.moved hW.alike (C.1.2.2.2.2.2.2.2.2.1.kept (fun a ha hna => hS.2.1 a ha (fun z => hna (hA.2 a z))))
  have hfix : CallFix p m c q.2.1 q.2.2.1 s args rx_gw q.1.cls := ⟨C.1.1, C.1.2.1, C.1.2.2.2.1, C.1.2.2.2.2.1, C.1.2.2.2.2.2.1⟩
  have hw2 : rx_ws y = Cond.code y.1 y.2.1 y.2.2.1 none :: rx_gw := by unfold rx_ws; rw [k4]
  have hrun : va_Run p G.1 e R s m args below meth c H locs ce sl mc' ms' (F0 m pc ls (As.reverse ++ .ref b :: st)) st (rc_Q G (va_A [(b, x0)] H.size) Q' (Value.ref b :: As).toArray) (va_A [(b, x0)] H.size) := by
    rcases k1 with k1 | k1
    · exact va_runI (As := As) (rest := st) (n := n) (index := idx) (bytes := y.2.1) (maxL := y.2.2.1) hfix (hE H.size g1 g2) (cwI n C.1.2.2.2.2.2.1 (ws' := rx_gw) hg hw2 hrc hrs (C.1.2.2.2.2.2.1 _ k5) (C.1.2.2.2.2.2.1 _ k1) (C.1.2.2.2.2.2.1 _ k2) k3 k7 ⟨hRf, hRl⟩) hpre rfl hn hl.1 rfl (lv_room hsum) hd ⟨hc, hs⟩
    · exact va_runIN (As := As) (rest := st) (n := n) (index := idx) (bytes := y.2.1) (maxL := y.2.2.1) (host := "GlassRoom") hfix (hE H.size g1 g2) ⟨va_cnB n C.1.2.2.2.2.2.1 (ws' := rx_gw) hg hw2 hrc hrs (C.1.2.2.2.2.2.2.2.2.2.2 _ k1) (C.1.2.2.2.2.2.1 _ k5) k7 ⟨hRf, hRl⟩, k3, C.1.2.2.2.2.2.1 _ k2⟩ hpre rfl hn hl.1 rfl (lv_room hsum) hd ⟨hc, hs⟩
  refine va_callv hrun hS (fun z _ h => hFc z h) hFc (fun u t H1 locs1 ht hvm hw hB hz1 hk1 hS1 => ?_)
  · obtain ⟨t1, w1⟩ := u
    obtain ⟨hP1, hD1, hK1⟩ := hB
    rw [ht] at hP1
    obtain ⟨hP, hD⟩ := va_join (wr := wr) (w1 := w1) hP hD [wr.length] (List.range wr.length) hCm (rng_map wr _) (rng_nd _ List.nodup_range) (fun i hi hi2 => by
      have := List.mem_range.mp hi
      have h3 : i = wr.length := by simpa using hi2
      omega) hk1 hFc hP1 hD1
    exact k t1 w1 hw p e s m args below meth c H1 locs1 ls C hA hl hP hD hS1
/-- a row of lights -/
theorem c_newq {idx N : Nat} {n : Int32} (hd : decode q.2.1 pc = .ok (.anewarray idx, 3)) (h1 : Cond.classLink q.1.cls idx "GlassRoom$Light" ∈ rx_gw) (hn : ¬ n < 0) (hN : n.toNatClampNeg = N) (hb : N ≤ 100000) (hc : ce + 1 ≤ R.cells) (hs : sl + N ≤ R.slots) (k : ∀ a cA, Rc G R mc ms q A (ty ++ [(cA, .object "GlassRoom$Light")]) (pc + 3) lv (.ref a :: st) (ws ++ [(a, .inl (cA, N, .inr (.inr (.inr (.inr (fun _ => none))))))]) (ce + 1) (sl + N) Q) : Rc G R mc ms q A ty pc lv (.int n :: st) ws ce sl Q := by
  intro p e s m args below meth c H locs ls C hA hl hP hD hS
  exact va_newq C.1.1 C.1.2.1 C.1.2.2.2.2.1 (C.1.2.2.2.2.2.1 _ h1) C.1.2.2.2.2.2.2.2.2.2.1 C.2 hP hD hS hA.1 hn hN (by omega) hc hs hd (fun a cA H1 hK hP hD hS => k a cA p e s m args below meth c H1 locs ls ⟨C.1, hK⟩ hA hl hP hD hS)
theorem c_astq {a v q0 t0 qk N : Nat} {cA : ClassId} {i : Int32} {vs : List Value} {f : Nat → Option Nat} {wz : va_W} (hd : decode q.2.1 pc = .ok (.aastore, 1)) (ha : ws[q0]? = some (a, .inl (cA, N, .inr (.inr (.inr (.inr f)))))) (ht : ty[t0]? = some (cA, .object "GlassRoom$Light")) (hv : ws[qk]? = some (v, .inr (6, vs))) (hin : vp_in i N) (hw : ws.set q0 (a, .inl (cA, N, .inr (.inr (.inr (.inr (va_up f i.toNatClampNeg (some v))))))) = wz) (k : Rc G R mc ms q A ty (pc + 1) lv st wz ce sl Q) : Rc G R mc ms q A ty pc lv (.ref v :: .int i :: .ref a :: st) ws ce sl Q := by
  intro p e s m args below meth c H locs ls C hA hl hP hD hS
  subst hw
  exact va_astq (r := (RX6, TX6, 3)) C.1.1 C.1.2.1 C.2 hP hD hS q0 t0 qk 6 ha ht hv rfl hin hd (fun H1 locs1 hP hD hS => k p e s m args below meth c H1 locs1 ls C hA hl hP hD hS)
theorem c_alen {a q0 t0 : Nat} {cA : ClassId} {x : vp_A} {ft : FieldType} {v : Int32} (hd : decode q.2.1 pc = .ok (.arraylength, 1)) (ha : ws[q0]? = some (a, .inl (cA, x))) (ht : ty[t0]? = some (cA, ft)) (hv : Int32.ofNat x.1 = v) (k : Rc G R mc ms q A ty (pc + 1) lv (.int v :: st) ws ce sl Q) : Rc G R mc ms q A ty pc lv (.ref a :: st) ws ce sl Q := by
  intro p e s m args below meth c H locs ls C hA hl hP hD hS
  exact va_alen C.1.1 C.1.2.1 C.2 hP q0 t0 ha ht hv hd (k p e s m args below meth c H locs ls C hA hl hP hD hS)
theorem rc_S {s : State} {H : Heap} {locs : List Loc} (hA : ∀ z : Nat, A z → G.2.2.2.2.2 ≤ z) (hS : va_S A s.heap H locs) : va_S (rc_A0 G) s.heap H locs := ⟨hS.1, fun z h1 h2 => hS.2.1 z h1 (fun h => h2 (hA z h)), fun l hl => hA _ (hS.2.2 l hl)⟩
theorem c_usual {idx : Nat} (hd : decode q.2.1 pc = .ok (.getstatic idx, 3)) (hd2 : decode q.2.1 (pc + 3) = .ok (.arraylength, 1)) (hF : Cond.fieldLink q.1.cls idx "GlassRoom$HallReader" "USUAL" "[I" ∈ rx_gw) (k : Rc G R mc ms q A ty (pc + 3 + 1) lv (.int 7 :: st) ws ce sl Q) : Rc G R mc ms q A ty pc lv st ws ce sl Q := by
  intro p e s m args below meth c H locs ls C hA hl hP hD hS
  obtain ⟨⟨z1, z2, z3, z4⟩, ⟨t1, t2, t3⟩, -⟩ := C.1.2.2.2.2.2.2.2.2.1
  have kk := k p e s m args below meth c H locs ls C hA hl hP hD hS
  exact va_gets C.1.1 C.1.2.1 z1 (rc_S hA.2 hS) C.1.2.2.2.2.1 (C.1.2.2.2.2.2.1 _ hF) (fun _ h9 => h9) hd (va_tlen C.1.1 C.1.2.1 t1 (rc_S hA.2 hS) (by decide) hd2 kk)
end RCC

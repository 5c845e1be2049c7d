/-! calls and entries over Rn and Ev -/
theorem rx_good {l : List Cond} (h : ∀ w ∈ l, w ∈ rx_gw) : GoodIn rx_gw l := fun w hw => ⟨h w hw, good_of_word (List.mem_filter.mp (h w hw)).2⟩
theorem rx_blind {Ω : rx_Om} {G : rx_Gh} {hp : rx_Hp} {as : List Value} : FrameBlind (va_Pc as (rx_B Ω G hp)) := by
  intro a U g mk h
  obtain ⟨h0, h1, h2, h3, h4, h5, h6⟩ := h
  exact ⟨h0, h1, h2, h3, va_K.moved (u := U) (U := U.calling g mk a) (Vm.Alike.refl U.vm) h4, rx_St.moved (u := U) (U := U.calling g mk a) (Vm.Alike.refl U.vm) h5, rx_Rs.same (u := U) (U := U.calling g mk a) rfl h6⟩
/-- the facts of a call: of an own object's method; of a static method; of a nest mate's static one -/
def rx_CB (y : rx_Mi) (n : Nat) : Prop := Cond.initialized y.1.cls ∈ rx_gw ∧ Cond.code y.1 y.2.1 y.2.2.1 y.2.2.2 ∈ rx_gw ∧ (y.1.cls ≠ "java/lang/invoke/MethodHandle" ∧ y.1.cls ≠ "java/lang/invoke/VarHandle" ∧ (parseMethodDescriptor y.1.desc).map (fun d => d.parameters.length) = some n) ∧ y.2.2.1 ≤ 45
def rx_CV (own : String) (idx : Nat) (y : rx_Mi) (n : Nat) : Prop := (Cond.methodLink own idx y.1 ∈ rx_gw ∧ Cond.instanceMethod y.1 ∈ rx_gw ∧ Cond.selects y.1.cls y.1 y.1 ∈ rx_gw) ∧ rx_CB y n
def rx_CS (own : String) (idx : Nat) (y : rx_Mi) (n : Nat) : Prop := (Cond.methodLink own idx y.1 ∈ rx_gw ∧ Cond.static y.1 ∈ rx_gw) ∧ rx_CB y n
def rx_CN (own : String) (idx : Nat) (y : rx_Mi) (n : Nat) : Prop := ((Cond.methodLinkNest own idx y.1 "GlassRoom" = rx_N1 ∨ Cond.methodLinkNest own idx y.1 "GlassRoom" = rx_N2 ∨ Cond.methodLinkNest own idx y.1 "GlassRoom" = rx_N3) ∧ Cond.static y.1 ∈ rx_gw) ∧ rx_CB y n
def rx_nd : Value → Bool
  | .double _ => false
  | _ => true
theorem rx_nd_of {as : List Value} (h : as.all rx_nd = true) : ∀ v ∈ as, v.category = 2 → ∃ x, v = .long x := by
  intro v hv h2
  have := List.all_eq_true.mp h v hv
  cases v <;> first | exact ⟨_, rfl⟩ | (simp [Value.category] at h2; done) | (simp [rx_nd] at this; done)
theorem rx_lgl (ad : Nat → Nat) (as : List Value) : (lg_sl (as.map (rx_tr ad))).length = (lg_sl as).length := by
  induction as with
  | nil => rfl
  | cons v vs ih =>
    have e1 : ∀ (w : Value) (ws : List Value), (lg_sl (w :: ws)).length = (if w.category = 2 then 2 else 1) + (lg_sl ws).length := by
      intro w ws
      simp only [lg_sl, List.flatMap_cons, List.length_append]
      split <;> rfl
    rw [List.map_cons, e1, e1, ih, rx_tr_cat]
section RXC
variable {Ω : rx_Om} {G : rx_Gh} {d : Nat} {q : rx_Mi} {pc : Nat} {lv : List (Option Value)} {st : List Value} {hp : rx_Hp} {Q : rx_Po}
theorem rx_pre {p : Program} {s : State} {m : MethodId} {args : Array Value} {meth : Method} {c : Code} {H : Heap} {locs : List Loc} (C : rx_Cx Ω G q p s m args meth c) (hP : va_P G.2.1 vwCl (rx_wd Ω G hp) H) (hS : va_S (rx_A Ω G) s.heap H locs) : ∀ U : State, U.heap = H → s.WarmedH U.vm → rx_B Ω G hp U := by
  intro U hU hW
  obtain ⟨c1, c2, c3, c4, c5, c6, c7, c8, c9, c10, c11, c12⟩ := C
  refine ⟨by rw [hU]; exact Nat.le_trans c12 hS.1, c8, by rw [hU]; exact hP, va_K.moved hW.alike c9, ?_, rx_Rs.warm hW c11⟩
  rw [hU]
  exact rx_St.moved hW.alike (c10.kept hS.2.1)
theorem rx_go {p : Program} {e : Env} {R : Room} {s : State} {m : MethodId} {args : Array Value} {below : List Frame} {meth : Method} {c : Code} {H : Heap} {locs : List Loc} {QQ : State → Prop} {ls : Array Slot} {rest st0 : List Value} {a : Array Value} {Q' : rx_Po}
    (hr : va_Run p G.1 e R s m args below meth c H locs 0 0 0 0 (F0 m pc ls st0) rest (rx_Q Ω G Q' a) (rx_A Ω G)) (hS : va_S (rx_A Ω G) s.heap H locs)
    (kk : ∀ (r : Option Value) (hp' : rx_Hp) (H1 : Heap) (locs1 : List Loc), Q' r hp' → va_P G.2.1 vwCl (rx_wd Ω G hp') H1 → va_S (rx_A Ω G) s.heap H1 locs1 → W p G.1 e R s m args below meth c H1 locs1 0 0 QQ (F0 m (pc + 3) ls ((r.map (rx_tr G.2.2.1)).toList ++ rest))) : W p G.1 e R s m args below meth c H locs 0 0 QQ (F0 m pc ls st0) := by
  intro T hT X
  obtain ⟨v, st₀, t, T', L, h0, X', hL, e1, e2, ⟨⟨r, hp', hv, hq, hp1⟩, hz, hk⟩, stp⟩ := hr T hT X
  cases hv
  rw [h0] at hz hk
  obtain ⟨t2, a1, b1⟩ := kk r hp' T'.heap (locs ++ L) hq (by rw [e1]; exact hp1)
    ⟨Nat.le_trans hS.1 (by rw [e1]; exact hz), fun q h1 h2 => by rw [e1, hk q (Nat.lt_of_lt_of_le h1 hS.1) h2]; exact hS.2.1 q h1 h2, fun q hq => by
      rcases List.mem_append.mp hq with h | h
      · exact hS.2.2 q h
      · exact hL q h⟩ T' rfl X'
  exact ⟨t2, stp t2 a1, b1⟩
theorem rx_nw {w : Cond} {args : Array Value} {s : State} (h : w.before args s = true) (hc : w.onTables = true := by rfl) : va_Nw w s := va_Nw.of hc h
theorem rx_map_rev (f : Value → Value) (As : List Value) (r : List Value) : (As.reverse ++ r).map f = (As.map f).reverse ++ r.map f := by simp
theorem r_callV {y : rx_Mi} {b ci idx n d' : Nat} {As : List Value} {Q' : rx_Po} (hd : decode q.2.1 pc = .ok (.invokevirtual idx, 3)) (hC : rx_CV q.1.cls idx y n) (hn : As.length = n) (hdd : d' < d) (hb : b < Ω.1) (hk : Ω.2.1 b = .inl ci) (hcl : (vwCl[ci]?).map (fun r => r.1) = some y.1.cls) (hw : (st.map fun v => v.category).sum ≤ 8) (hE : Ev Ω G d' y (.ref b :: As) hp Q')
    (k : ∀ (r : Option Value) (hp' : rx_Hp), Q' r hp' → Rn Ω G d q (pc + 3) lv (r.toList ++ st) hp' Q) : Rn Ω G d q pc lv (As.reverse ++ .ref b :: st) hp Q := by
  intro p e s m args below meth c H locs ls C hl hP hS
  obtain ⟨⟨k1, k2, k3⟩, k4, k5, k6, k7⟩ := hC
  have hc : rx_cell Ω G hp b = .inr (ci, rx_fs Ω G.2.2.1 hp b (rx_sh ci)) := by simp only [rx_cell, hk]
  obtain ⟨r, hr1, hr2⟩ : ∃ r, vwCl[ci]? = some r ∧ r.1 = y.1.cls := by
    cases hv : vwCl[ci]? with
    | none => rw [hv] at hcl; cases hcl
    | some r => rw [hv] at hcl; exact ⟨r, rfl, Option.some.inj hcl⟩
  rw [rx_map_rev]
  refine rx_go (va_runV (As := As.map (rx_tr G.2.2.1)) (b := G.2.2.1 b) (rest := st.map (rx_tr G.2.2.1)) (nL := q.2.2.1) (Ts := rx_gw) (own := q.1.cls) (C := y.1.cls) (n := n) (index := idx) ⟨C.1, C.2.1, C.2.2.2.1, C.2.2.2.2.1, C.2.2.2.2.2.1⟩ hE
    (cwV n C.2.2.2.2.2.1 (rx_good ?_) rfl rfl rfl ⟨rfl, k6⟩ ⟨?_, ?_⟩) ⟨rx_blind, ?_, fun U hU hW => ⟨rfl, rx_pre C hP hS U hU hW⟩⟩ rfl (by simpa using hn) hl.1 rfl (by show 2 * 0 + _ ≤ 8; rw [rx_cats]; omega) hd ⟨Nat.le_refl _, Nat.le_refl _⟩) hS
    (fun r hp' H1 locs1 hq hP1 hS1 => ?_)
  · intro w hw
    rcases List.mem_append.mp hw with h | h
    · simp only [List.mem_cons, List.not_mem_nil, or_false] at h
      rcases h with rfl | rfl | rfl | rfl
      · exact k1
      · exact k2
      · exact k3
      · exact k4
    · rcases List.mem_cons.mp h with rfl | h
      · exact k5
      · exact h
  · show d' + 8 + 1 ≤ d + 8
    omega
  · show 8 + (y.2.2.1 + 11) + (64 * d' + 400) ≤ 64 * d + 400
    omega
  · have := va_recv (s := s) (H := H) C.2.2.2.2.2.2.2.2.1 hP hr1 (by rw [rx_wd_get hb, hc])
    rw [hr2] at this
    exact this
  · have := k r hp' hq p e s m args below meth c H1 locs1 ls C hl hP1 hS1
    cases r <;> simpa using this
theorem r_callS {y : rx_Mi} {idx n d' : Nat} {As : List Value} {Q' : rx_Po} (hd : decode q.2.1 pc = .ok (.invokestatic idx, 3)) (hC : rx_CS q.1.cls idx y n) (hn : As.length = n) (hdd : d' < d) (hw : (st.map fun v => v.category).sum ≤ 8) (hE : Ev Ω G d' y As hp Q')
    (k : ∀ (r : Option Value) (hp' : rx_Hp), Q' r hp' → Rn Ω G d q (pc + 3) lv (r.toList ++ st) hp' Q) : Rn Ω G d q pc lv (As.reverse ++ st) hp Q := by
  intro p e s m args below meth c H locs ls C hl hP hS
  obtain ⟨⟨k1, k2⟩, k4, k5, k6, k7⟩ := hC
  rw [rx_map_rev]
  refine rx_go (va_runS (As := As.map (rx_tr G.2.2.1)) (rest := st.map (rx_tr G.2.2.1)) (nL := q.2.2.1) (Ts := rx_gw) (own := q.1.cls) (n := n) (index := idx) ⟨C.1, C.2.1, C.2.2.2.1, C.2.2.2.2.1, C.2.2.2.2.2.1⟩ hE
    (va_cwS n C.2.2.2.2.2.1 (rx_good ?_) rfl rfl rfl k6 ⟨?_, ?_⟩) ⟨rx_blind, fun U hU hW => ⟨rfl, rx_pre C hP hS U hU hW⟩⟩ rfl (by simpa using hn) hl.1 rfl (by show 2 * 0 + _ ≤ 8; rw [rx_cats]; omega) hd ⟨Nat.le_refl _, Nat.le_refl _⟩) hS
    (fun r hp' H1 locs1 hq hP1 hS1 => ?_)
  · intro w hw
    rcases List.mem_append.mp hw with h | h
    · simp only [List.mem_cons, List.not_mem_nil, or_false] at h
      rcases h with rfl | rfl | rfl
      · exact k1
      · exact k2
      · exact k4
    · rcases List.mem_cons.mp h with rfl | h
      · exact k5
      · exact h
  · show d' + 8 + 1 ≤ d + 8
    omega
  · show 8 + (y.2.2.1 + 11) + (64 * d' + 400) ≤ 64 * d + 400
    omega
  · have := k r hp' hq p e s m args below meth c H1 locs1 ls C hl hP1 hS1
    cases r <;> simpa using this
theorem r_callN {y : rx_Mi} {idx n d' : Nat} {As : List Value} {Q' : rx_Po} (hd : decode q.2.1 pc = .ok (.invokestatic idx, 3)) (hC : rx_CN q.1.cls idx y n) (hn : As.length = n) (hdd : d' < d) (hw : (st.map fun v => v.category).sum ≤ 8) (hE : Ev Ω G d' y As hp Q')
    (k : ∀ (r : Option Value) (hp' : rx_Hp), Q' r hp' → Rn Ω G d q (pc + 3) lv (r.toList ++ st) hp' Q) : Rn Ω G d q pc lv (As.reverse ++ st) hp Q := by
  intro p e s m args below meth c H locs ls C hl hP hS
  obtain ⟨⟨k1, k2⟩, k4, k5, k6, k7⟩ := hC
  have kN : va_Nw (.methodLinkNest q.1.cls idx y.1 "GlassRoom") s := by
    have hR := C.2.2.2.2.2.2.2.2.2.2.1.2
    rcases k1 with h | h | h
    · rw [h]; exact hR.1
    · rw [h]; exact hR.2.1
    · rw [h]; exact hR.2.2
  rw [rx_map_rev]
  refine rx_go (va_runSN (As := As.map (rx_tr G.2.2.1)) (rest := st.map (rx_tr G.2.2.1)) (nL := q.2.2.1) (Ts := rx_gw) (own := q.1.cls) (host := "GlassRoom") (n := n) (index := idx) ⟨C.1, C.2.1, C.2.2.2.1, C.2.2.2.2.1, C.2.2.2.2.2.1⟩ hE
    ⟨va_cnB n C.2.2.2.2.2.1 (rx_good ?_) rfl rfl rfl kN (C.2.2.2.2.2.1 _ k4) k6 ⟨?_, ?_⟩, C.2.2.2.2.2.1 _ k2, trivial⟩ ⟨rx_blind, fun U hU hW => ⟨rfl, rx_pre C hP hS U hU hW⟩⟩ rfl (by simpa using hn) hl.1 rfl (by show 2 * 0 + _ ≤ 8; rw [rx_cats]; omega) hd ⟨Nat.le_refl _, Nat.le_refl _⟩) hS
    (fun r hp' H1 locs1 hq hP1 hS1 => ?_)
  · intro w h
    rcases List.mem_cons.mp h with rfl | h
    · exact k5
    · exact h
  · show d' + 8 + 1 ≤ d + 8
    omega
  · show 8 + (y.2.2.1 + 11) + (64 * d' + 400) ≤ 64 * d + 400
    omega
  · have := k r hp' hq p e s m args below meth c H1 locs1 ls C hl hP1 hS1
    cases r <;> simpa using this
theorem rx_ofW {l : Launch} {y : MethodName} {ws ws' : List Cond} {rm : Room} {Pc : Array Value → State → Prop} {Qc : Array Value → State → Outcome → State → Prop} {mc ms : Nat} {free : Addr → Prop} {cc : ByteArray} {maxL : Nat} {ret : Option FieldType}
    (hy : plainFor y = true) (hw : ws = Cond.code y cc maxL ret :: ws')
    (body : ∀ p e s m args below meth c s₁, BodyLoose p l y (headSpec ws rm) cc maxL ret e s m args below meth c s₁ → c.maxLocals = maxL → Pc args s →
      W p l e (headSpec ws rm).room s m args below meth c s.heap [] 0 0 (MQ below Qc args s mc ms free) (entryFrame m args maxL)) : Met l y ws rm Pc Qc mc ms free := by
  refine MetFree.of_bodySF (code := cc) (maxLocals := maxL) (ret := ret) hy ?_ ?_
  · intro args s m h hn
    obtain ⟨meth, c, h1, h2, h3, h4, h5, h6, -, -⟩ := Cond.code_spec hn (atoms_spec (ws := ws) h _ (by rw [hw]; exact List.mem_cons_self))
    exact ⟨meth, c, h1, h2, h3, h4, h5, h6⟩
  · intro p e s m args below meth c s₁ B hml hP _
    have hh0 : s₁.heap = s.heap := by rw [B.state]; rfl
    obtain ⟨t, a1, o, b1, b2, b3⟩ := body p e s m args below meth c s₁ B hml hP s₁ hh0 (Stand.of_body B)
    exact ⟨t, o, a1, b1, b2, ⟨b3.1, b3.2⟩⟩
theorem ev_of {as : List Value} (hpl : plainFor q.1 = true) (hlen : (lg_sl as).length ≤ q.2.2.1) (hc : as.all rx_nd = true) (h : Rn Ω G d q 0 (rx_ent as ++ List.replicate (q.2.2.1 - (rx_ent as).length) none) [] hp Q) : Ev Ω G d q as hp Q := by
  refine rx_ofW (cc := q.2.1) (maxL := q.2.2.1) (ret := q.2.2.2) hpl rfl ?_
  intro p e s m args below meth c s₁ B hml hv
  obtain ⟨rfl, v0, v1, v2, v3, v4, v5⟩ := hv
  have hts := atoms_spec (ws := rx_ws q) B.pre
  have hlen' : (lg_sl (as.map (rx_tr G.2.2.1))).length ≤ q.2.2.1 := by
    have := rx_lgl G.2.2.1 as
    omega
  have hl := lv_entry (as.map (rx_tr G.2.2.1)) (n := q.2.2.1) hlen'
  rw [lg_entry_eq]
  generalize (lg_sl (as.map (rx_tr G.2.2.1)) ++ List.replicate (q.2.2.1 - (lg_sl (as.map (rx_tr G.2.2.1))).length) Slot.unset).toArray = ls at hl ⊢
  refine h p e s m _ below meth c s.heap [] ls ⟨B.exec, B.bytes, B.returns, hml, findClass_of_methodNamed B.named, fun w hw => hts w (List.mem_cons_of_mem _ hw), B.notSynchronized, v1, v3, v4, v5, v0⟩ ?_ v2 va_S.rf
  rw [rx_lv_app]
  exact ⟨hl.1, hl.2.1, fun z hz => hl.2.2 z (rx_ent_mem G.2.2.1 as 0 (rx_nd_of hc) z hz)⟩
end RXC
/-- an answer of each kind -/
def rI (F : Int32 → rx_Hp → Prop) : rx_Po := fun r hp => ∃ v, r = some (.int v) ∧ F v hp
def rV (F : rx_Hp → Prop) : rx_Po := fun r hp => r = none ∧ F hp
def rJ (F : Int64 → rx_Hp → Prop) : rx_Po := fun r hp => ∃ v, r = some (.long v) ∧ F v hp
def rR (F : Nat → rx_Hp → Prop) : rx_Po := fun r hp => ∃ v, r = some (.ref v) ∧ F v hp
theorem r_callT {Ω : rx_Om} {G : rx_Gh} {d : Nat} {q : rx_Mi} {pc : Nat} {lv : List (Option Value)} {st : List Value} {hp : rx_Hp} {Q : rx_Po} {y : rx_Mi} {t idx n d' : Nat} {As : List Value} {Q' : rx_Po} (hd : decode q.2.1 pc = .ok (.invokevirtual idx, 3)) (hC : rx_CV q.1.cls idx y n) (hn : As.length = n) (hdd : d' < d) (ht : t < 2) (hcl : y.1.cls = "java/lang/String") (hw : (st.map fun v => v.category).sum ≤ 8) (hE : Ev Ω G d' y (.ref (2000 + t) :: As) hp Q')
    (k : ∀ (r : Option Value) (hp' : rx_Hp), Q' r hp' → Rn Ω G d q (pc + 3) lv (r.toList ++ st) hp' Q) : Rn Ω G d q pc lv (As.reverse ++ .ref (2000 + t) :: st) hp Q := by
  intro p e s m args below meth c H locs ls C hl hP hS
  obtain ⟨⟨k1, k2, k3⟩, k4, k5, k6, k7⟩ := hC
  rw [rx_map_rev]
  refine rx_go (va_runV (As := As.map (rx_tr G.2.2.1)) (b := G.2.2.1 (2000 + t)) (rest := st.map (rx_tr G.2.2.1)) (nL := q.2.2.1) (Ts := rx_gw) (own := q.1.cls) (C := y.1.cls) (n := n) (index := idx) ⟨C.1, C.2.1, C.2.2.2.1, C.2.2.2.2.1, C.2.2.2.2.2.1⟩ hE
    (cwV n C.2.2.2.2.2.1 (rx_good ?_) rfl rfl rfl ⟨rfl, k6⟩ ⟨?_, ?_⟩) ⟨rx_blind, ?_, fun U hU hW => ⟨rfl, rx_pre C hP hS U hU hW⟩⟩ rfl (by simpa using hn) hl.1 rfl (by show 2 * 0 + _ ≤ 8; rw [rx_cats]; omega) hd ⟨Nat.le_refl _, Nat.le_refl _⟩) hS
    (fun r hp' H1 locs1 hq hP1 hS1 => ?_)
  · intro w hw
    rcases List.mem_append.mp hw with h | h
    · simp only [List.mem_cons, List.not_mem_nil, or_false] at h
      rcases h with rfl | rfl | rfl | rfl
      · exact k1
      · exact k2
      · exact k3
      · exact k4
    · rcases List.mem_cons.mp h with rfl | h
      · exact k5
      · exact h
  · show d' + 8 + 1 ≤ d + 8
    omega
  · show 8 + (y.2.2.1 + 11) + (64 * d' + 400) ≤ 64 * d + 400
    omega
  · have := vk_recv (i := t) C.2.2.2.2.2.2.2.2.2.1.2.2 ht hS
    rw [hcl]
    exact this
  · have := k r hp' hq p e s m args below meth c H1 locs1 ls C hl hP1 hS1
    cases r <;> simpa using this
section RXD
variable {Ω : rx_Om} {G : rx_Gh} {d : Nat} {q : rx_Mi} {pc : Nat} {lv : List (Option Value)} {hp : rx_Hp} {Q : rx_Po} {y : rx_Mi} {b ci idx n d' t : Nat}
theorem rc_SI (As st : List Value) {st0 : List Value} {F : Int32 → rx_Hp → Prop} (hd : decode q.2.1 pc = .ok (.invokestatic idx, 3)) (hC : rx_CS q.1.cls idx y n) (hst : As.reverse ++ st = st0) (hn : As.length = n) (hdd : d' < d) (hw : (st.map fun v => v.category).sum ≤ 8) (hE : Ev Ω G d' y As hp (rI F)) (k : ∀ v h, F v h → Rn Ω G d q (pc + 3) lv (.int v :: st) h Q) : Rn Ω G d q pc lv st0 hp Q := by
  subst hst
  exact r_callS hd hC hn hdd hw hE (fun r h hh => by obtain ⟨v, rfl, hh⟩ := hh; exact k v h hh)
theorem rc_NI (As st : List Value) {st0 : List Value} {F : Int32 → rx_Hp → Prop} (hd : decode q.2.1 pc = .ok (.invokestatic idx, 3)) (hC : rx_CN q.1.cls idx y n) (hst : As.reverse ++ st = st0) (hn : As.length = n) (hdd : d' < d) (hw : (st.map fun v => v.category).sum ≤ 8) (hE : Ev Ω G d' y As hp (rI F)) (k : ∀ v h, F v h → Rn Ω G d q (pc + 3) lv (.int v :: st) h Q) : Rn Ω G d q pc lv st0 hp Q := by
  subst hst
  exact r_callN hd hC hn hdd hw hE (fun r h hh => by obtain ⟨v, rfl, hh⟩ := hh; exact k v h hh)
theorem rc_VI (As st : List Value) {st0 : List Value} {F : Int32 → rx_Hp → Prop} (hd : decode q.2.1 pc = .ok (.invokevirtual idx, 3)) (hC : rx_CV q.1.cls idx y n) (hst : As.reverse ++ .ref b :: st = st0) (hn : As.length = n) (hdd : d' < d) (hb : b < Ω.1) (hk : Ω.2.1 b = .inl ci) (hcl : (vwCl[ci]?).map (fun r => r.1) = some y.1.cls) (hw : (st.map fun v => v.category).sum ≤ 8) (hE : Ev Ω G d' y (.ref b :: As) hp (rI F)) (k : ∀ v h, F v h → Rn Ω G d q (pc + 3) lv (.int v :: st) h Q) : Rn Ω G d q pc lv st0 hp Q := by
  subst hst
  exact r_callV hd hC hn hdd hb hk hcl hw hE (fun r h hh => by obtain ⟨v, rfl, hh⟩ := hh; exact k v h hh)
theorem rc_VV (As st : List Value) {st0 : List Value} {F : rx_Hp → Prop} (hd : decode q.2.1 pc = .ok (.invokevirtual idx, 3)) (hC : rx_CV q.1.cls idx y n) (hst : As.reverse ++ .ref b :: st = st0) (hn : As.length = n) (hdd : d' < d) (hb : b < Ω.1) (hk : Ω.2.1 b = .inl ci) (hcl : (vwCl[ci]?).map (fun r => r.1) = some y.1.cls) (hw : (st.map fun v => v.category).sum ≤ 8) (hE : Ev Ω G d' y (.ref b :: As) hp (rV F)) (k : ∀ h, F h → Rn Ω G d q (pc + 3) lv st h Q) : Rn Ω G d q pc lv st0 hp Q := by
  subst hst
  exact r_callV hd hC hn hdd hb hk hcl hw hE (fun r h hh => by obtain ⟨rfl, hh⟩ := hh; exact k h hh)
theorem rc_VR (As st : List Value) {st0 : List Value} {F : Nat → rx_Hp → Prop} (hd : decode q.2.1 pc = .ok (.invokevirtual idx, 3)) (hC : rx_CV q.1.cls idx y n) (hst : As.reverse ++ .ref b :: st = st0) (hn : As.length = n) (hdd : d' < d) (hb : b < Ω.1) (hk : Ω.2.1 b = .inl ci) (hcl : (vwCl[ci]?).map (fun r => r.1) = some y.1.cls) (hw : (st.map fun v => v.category).sum ≤ 8) (hE : Ev Ω G d' y (.ref b :: As) hp (rR F)) (k : ∀ v h, F v h → Rn Ω G d q (pc + 3) lv (.ref v :: st) h Q) : Rn Ω G d q pc lv st0 hp Q := by
  subst hst
  exact r_callV hd hC hn hdd hb hk hcl hw hE (fun r h hh => by obtain ⟨v, rfl, hh⟩ := hh; exact k v h hh)
theorem rc_TI (As st : List Value) {st0 : List Value} {F : Int32 → rx_Hp → Prop} (hd : decode q.2.1 pc = .ok (.invokevirtual idx, 3)) (hC : rx_CV q.1.cls idx y n) (hst : As.reverse ++ .ref (2000 + t) :: st = st0) (hn : As.length = n) (hdd : d' < d) (ht : t < 2) (hcl : y.1.cls = "java/lang/String") (hw : (st.map fun v => v.category).sum ≤ 8) (hE : Ev Ω G d' y (.ref (2000 + t) :: As) hp (rI F)) (k : ∀ v h, F v h → Rn Ω G d q (pc + 3) lv (.int v :: st) h Q) : Rn Ω G d q pc lv st0 hp Q := by
  subst hst
  exact r_callT hd hC hn hdd ht hcl hw hE (fun r h hh => by obtain ⟨v, rfl, hh⟩ := hh; exact k v h hh)
theorem rk_SJ (As st : List Value) {st0 : List Value} (hd : decode q.2.1 pc = .ok (.invokestatic idx, 3)) (hC : rx_CS q.1.cls idx y n) (hst : As.reverse ++ st = st0) (hn : As.length = n) (hdd : d' < d) (hw : (st.map fun v => v.category).sum ≤ 8) (hE : Ev Ω G d' y As hp (rJ fun v h => Rn Ω G d q (pc + 3) lv (.long v :: st) h Q)) : Rn Ω G d q pc lv st0 hp Q := by
  subst hst
  exact r_callS hd hC hn hdd hw hE (fun r h hh => by obtain ⟨v, rfl, hh⟩ := hh; exact hh)
theorem rJ_ret (hd : decode q.2.1 pc = .ok (.lreturn, 1)) (hr : q.2.2.2 = some .long) {v : Int64} {F : Int64 → rx_Hp → Prop} (h : F v hp) : Rn Ω G d q pc lv [.long v] hp (rJ F) := by
  intro p e s m args below meth c H locs ls C hl hP hS
  exact W.lret C.1 C.2.1 (C.2.2.1.trans hr) (fun t ht hW => ⟨⟨some (.long v), hp, rfl, ⟨v, rfl, h⟩, by rw [ht]; exact hP⟩, hS.F ht⟩) hS.2.2 hd C.2.2.2.2.2.2.1
theorem rk_SI (As st : List Value) {st0 : List Value} (hd : decode q.2.1 pc = .ok (.invokestatic idx, 3)) (hC : rx_CS q.1.cls idx y n) (hst : As.reverse ++ st = st0) (hn : As.length = n) (hdd : d' < d) (hw : (st.map fun v => v.category).sum ≤ 8) (hE : Ev Ω G d' y As hp (rI fun v h => Rn Ω G d q (pc + 3) lv (.int v :: st) h Q)) : Rn Ω G d q pc lv st0 hp Q := rc_SI As st hd hC hst hn hdd hw hE (fun _ _ h => h)
theorem rk_NI (As st : List Value) {st0 : List Value} (hd : decode q.2.1 pc = .ok (.invokestatic idx, 3)) (hC : rx_CN q.1.cls idx y n) (hst : As.reverse ++ st = st0) (hn : As.length = n) (hdd : d' < d) (hw : (st.map fun v => v.category).sum ≤ 8) (hE : Ev Ω G d' y As hp (rI fun v h => Rn Ω G d q (pc + 3) lv (.int v :: st) h Q)) : Rn Ω G d q pc lv st0 hp Q := rc_NI As st hd hC hst hn hdd hw hE (fun _ _ h => h)
theorem rk_VI (As st : List Value) {st0 : List Value} (hd : decode q.2.1 pc = .ok (.invokevirtual idx, 3)) (hC : rx_CV q.1.cls idx y n) (hst : As.reverse ++ .ref b :: st = st0) (hn : As.length = n) (hdd : d' < d) (hb : b < Ω.1) (hk : Ω.2.1 b = .inl ci) (hcl : (vwCl[ci]?).map (fun r => r.1) = some y.1.cls) (hw : (st.map fun v => v.category).sum ≤ 8) (hE : Ev Ω G d' y (.ref b :: As) hp (rI fun v h => Rn Ω G d q (pc + 3) lv (.int v :: st) h Q)) : Rn Ω G d q pc lv st0 hp Q := rc_VI As st hd hC hst hn hdd hb hk hcl hw hE (fun _ _ h => h)
theorem rk_VV (As st : List Value) {st0 : List Value} (hd : decode q.2.1 pc = .ok (.invokevirtual idx, 3)) (hC : rx_CV q.1.cls idx y n) (hst : As.reverse ++ .ref b :: st = st0) (hn : As.length = n) (hdd : d' < d) (hb : b < Ω.1) (hk : Ω.2.1 b = .inl ci) (hcl : (vwCl[ci]?).map (fun r => r.1) = some y.1.cls) (hw : (st.map fun v => v.category).sum ≤ 8) (hE : Ev Ω G d' y (.ref b :: As) hp (rV fun h => Rn Ω G d q (pc + 3) lv st h Q)) : Rn Ω G d q pc lv st0 hp Q := rc_VV As st hd hC hst hn hdd hb hk hcl hw hE (fun _ h => h)
theorem rk_VR (As st : List Value) {st0 : List Value} (hd : decode q.2.1 pc = .ok (.invokevirtual idx, 3)) (hC : rx_CV q.1.cls idx y n) (hst : As.reverse ++ .ref b :: st = st0) (hn : As.length = n) (hdd : d' < d) (hb : b < Ω.1) (hk : Ω.2.1 b = .inl ci) (hcl : (vwCl[ci]?).map (fun r => r.1) = some y.1.cls) (hw : (st.map fun v => v.category).sum ≤ 8) (hE : Ev Ω G d' y (.ref b :: As) hp (rR fun v h => Rn Ω G d q (pc + 3) lv (.ref v :: st) h Q)) : Rn Ω G d q pc lv st0 hp Q := rc_VR As st hd hC hst hn hdd hb hk hcl hw hE (fun _ _ h => h)
theorem rk_TI (As st : List Value) {st0 : List Value} (hd : decode q.2.1 pc = .ok (.invokevirtual idx, 3)) (hC : rx_CV q.1.cls idx y n) (hst : As.reverse ++ .ref (2000 + t) :: st = st0) (hn : As.length = n) (hdd : d' < d) (ht : t < 2) (hcl : y.1.cls = "java/lang/String") (hw : (st.map fun v => v.category).sum ≤ 8) (hE : Ev Ω G d' y (.ref (2000 + t) :: As) hp (rI fun v h => Rn Ω G d q (pc + 3) lv (.int v :: st) h Q)) : Rn Ω G d q pc lv st0 hp Q := rc_TI As st hd hC hst hn hdd ht hcl hw hE (fun _ _ h => h)
theorem rI_ret (hd : decode q.2.1 pc = .ok (.ireturn, 1)) (hr : q.2.2.2 = some .int) {v : Int32} {F : Int32 → rx_Hp → Prop} (h : F v hp) : Rn Ω G d q pc lv [.int v] hp (rI F) := r_iret hd hr ⟨v, rfl, h⟩
theorem rZ_ret (hd : decode q.2.1 pc = .ok (.ireturn, 1)) (hr : q.2.2.2 = some .boolean) {v : Int32} {F : Int32 → rx_Hp → Prop} (hn : v = 0 ∨ v = 1) (h : F v hp) : Rn Ω G d q pc lv [.int v] hp (rI F) := r_zret hd hr hn ⟨v, rfl, h⟩
theorem rV_ret (hd : decode q.2.1 pc = .ok (.return_, 1)) (hr : q.2.2.2 = none) {F : rx_Hp → Prop} (h : F hp) : Rn Ω G d q pc lv [] hp (rV F) := r_vret hd hr ⟨rfl, h⟩
theorem rR_ret {cn : String} (hd : decode q.2.1 pc = .ok (.areturn, 1)) (hr : q.2.2.2 = some (.object cn)) {v : Nat} {F : Nat → rx_Hp → Prop} (h : F v hp) : Rn Ω G d q pc lv [.ref v] hp (rR F) := r_aret hd hr ⟨v, rfl, h⟩
end RXD

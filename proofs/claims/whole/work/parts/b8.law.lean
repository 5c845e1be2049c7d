/-! the law: calls of both sides -/
section LWC
variable {p : Program} {l : Launch} {e : Env} {R : Room} {s : State} {m : MethodId} {args : Array Value} {below : List Frame} {meth : Method} {c : Code}
theorem lw_go {Ω : rx_Om} {G : rx_Gh} {A0 : Nat → Prop} {H : Heap} {locs : List Loc} {ce sl pc : Nat} {QQ : State → Prop} {ls : Array Slot} {rest st0 : List Value} {a : Array Value} {Q' : rx_Po}
    (hr : va_Run p l e R s m args below meth c H locs ce sl 0 0 (F0 m pc ls st0) rest (rx_Q Ω G Q' a) (rx_A Ω G)) (hS : va_S A0 s.heap H locs) (hA : ∀ q, rx_A Ω G q → A0 q)
    (kk : ∀ (r : Option Value) (hp' : rx_Hp) (H1 : Heap) (locs1 : List Loc), Q' r hp' → va_P G.2.1 vwCl (rx_wd Ω G hp') H1 → (∀ q : Nat, q < H.size → ¬ rx_A Ω G q → H1[q]? = H[q]?) → H.size ≤ H1.size → va_S A0 s.heap H1 locs1 → W p l e R s m args below meth c H1 locs1 ce sl QQ (F0 m (pc + 3) ls ((r.map (rx_tr G.2.2.1)).toList ++ rest))) : W p l e R s m args below meth c H locs ce sl QQ (F0 m pc ls st0) := by
  intro T hT X
  obtain ⟨v, st₀, t, T', L, h0, X', hL, e1, e2, ⟨⟨r, hp', hv, hq, hp1⟩, hz, hk⟩, stp⟩ := hr T hT X
  cases hv
  rw [h0] at hz hk
  obtain ⟨t2, a1, b1⟩ := kk r hp' T'.heap (locs ++ L) hq (by rw [e1]; exact hp1) (fun q h1 h2 => by rw [e1]; exact hk q h1 h2) (by rw [e1]; exact hz)
    ⟨Nat.le_trans hS.1 (by rw [e1]; exact hz), fun q h1 h2 => by rw [e1, hk q (Nat.lt_of_lt_of_le h1 hS.1) (fun z => h2 (hA q z))]; exact hS.2.1 q h1 h2, fun q hq => by
      rcases List.mem_append.mp hq with h | h
      · exact hS.2.2 q h
      · exact hA _ (hL q h)⟩ T' rfl X'
  exact ⟨t2, stp t2 a1, b1⟩
/-- the law asks a side -/
theorem lw_call {Ω : rx_Om} {G : rx_Gh} {A0 : Nat → Prop} {H : Heap} {locs : List Loc} {ce sl pc idx n d' ci : Nat} {QQ : State → Prop} {ls : Array Slot} {st : List Value} {y : rx_Mi} {As : List Value} {hp : rx_Hp} {F : Int32 → rx_Hp → Prop} (hl : l = G.1) (hfix : CallFix p m c code 7 s args rx_gw "GlassRoomLaw") (hd : decode code pc = .ok (.invokevirtual idx, 3)) (hC : rx_CV "GlassRoomLaw" idx y n) (hn : As.length = n) (hid : As.map (rx_tr G.2.2.1) = As) (hR : d' + 8 + 1 ≤ R.frames ∧ 8 + (45 + 11) + (64 * d' + 400) ≤ R.locals ∧ 0 ≤ R.cells) (hb : 0 < Ω.1) (hk : Ω.2.1 0 = .inl ci) (hcl : (vwCl[ci]?).map (fun r => r.1) = some y.1.cls) (hw : (st.map fun v => v.category).sum ≤ 8) (hls : ls.size = 7) (hE : Ev Ω G d' y (.ref 0 :: As) hp (rI F)) (hP : va_P G.2.1 vwCl (rx_wd Ω G hp) H) (hK : va_K G.2.1 vwCl (rx_ty G) s) (hB : ∀ U : State, U.heap = H → s.WarmedH U.vm → rx_B Ω G hp U) (hS : va_S A0 s.heap H locs) (hA : ∀ q, rx_A Ω G q → A0 q) (hcs : ce ≤ R.cells ∧ sl ≤ R.slots)
    (kk : ∀ (v : Int32) (hp' : rx_Hp) (H1 : Heap) (locs1 : List Loc), F v hp' → va_P G.2.1 vwCl (rx_wd Ω G hp') H1 → (∀ q : Nat, q < H.size → ¬ rx_A Ω G q → H1[q]? = H[q]?) → H.size ≤ H1.size → va_S A0 s.heap H1 locs1 → W p l e R s m args below meth c H1 locs1 ce sl QQ (F0 m (pc + 3) ls (.int v :: st))) {st0 : List Value} (hst : As.reverse ++ .ref (G.2.2.1 0) :: st = st0) : W p l e R s m args below meth c H locs ce sl QQ (F0 m pc ls st0) := by
  subst hst hl
  obtain ⟨⟨k1, k2, k3⟩, k4, k5, k6, k7⟩ := hC
  have hc : rx_cell Ω G hp 0 = .inr (ci, rx_fs Ω G.2.2.1 hp 0 (rx_sh ci)) := by simp only [rx_cell, hk]
  obtain ⟨r, hr1, hr2⟩ : ∃ r, vwCl[ci]? = some r ∧ r.1 = y.1.cls := by
    cases hv : vwCl[ci]? with
    | none => rw [hv] at hcl; cases hcl
    | some r => rw [hv] at hcl; exact ⟨r, rfl, Option.some.inj hcl⟩
  have hE' : Met G.1 y.1 (rx_ws y) (rx_rm d') (va_Pc (.ref (G.2.2.1 0) :: As) (rx_B Ω G hp)) (rx_Q Ω G (rI F)) 0 0 (rx_A Ω G) := by
    have := hE
    unfold Ev at this
    rw [List.map_cons, hid] at this
    exact this
  refine lw_go (va_runV (As := As) (b := G.2.2.1 0) (rest := st) (nL := 7) (Ts := rx_gw) (own := "GlassRoomLaw") (C := y.1.cls) (n := n) (index := idx) hfix hE'
    (cwV n hfix.2.2.2.2 (rx_good ?_) rfl rfl rfl ⟨rfl, k6⟩ ⟨hR.1, ?_⟩) ⟨rx_blind, ?_, fun U hU hW => ⟨rfl, hB U hU hW⟩⟩ rfl hn hls rfl (lv_room hw) hd ⟨hcs.1, hcs.2⟩) hS hA
    (fun r hp' H1 locs1 hq hP1 hk1 hz hS1 => ?_)
  · intro w hw
    rcases List.mem_append.mp hw with h | h
    · simp only [List.mem_cons, List.not_mem_nil, or_false] at h
      rcases h with rfl | rfl | rfl | rfl
      · exact k1
      · exact k2
      · exact k3
      · exact k4
    · rcases List.mem_cons.mp h with rfl | h
      · exact k5
      · exact h
  · exact Nat.le_trans (Nat.add_le_add_right (Nat.add_le_add_left (Nat.add_le_add_right k7 11) 8) _) hR.2.1
  · have := va_recv (s := s) (H := H) hK hP hr1 (by rw [rx_wd_get hb, hc])
    rw [hr2] at this
    exact this
  · obtain ⟨v, rfl, hF⟩ := hq
    exact kk v hp' H1 locs1 hF hP1 hk1 hz hS1
end LWC

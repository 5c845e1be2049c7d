/-! 'throw new NoSuchElementException("..")' out of GlassRoom -/
def tx_k : Cond → Bool
  | .declares _ => true
  | .castable _ _ => true
  | _ => false
def tx_V : List Cond := (tx_L "GlassRoom" 152).filter vx_no
def tx_N : List Cond := tx_V.filter (fun w => !goodWord w)
theorem tx_N_k : ∀ w ∈ tx_N, tx_k w = true := by decide +kernel
theorem tx_N_t : ∀ w ∈ tx_N, w.onTables = true := by decide +kernel
set_option maxRecDepth 20000 in
theorem tx_G_in : ∀ w ∈ tx_V.filter goodWord, w ∈ lw_tbl := by decide +kernel
theorem tx_V_ot : ∀ w ∈ tx_V, vx_ot w = true := by decide +kernel
theorem tx_warm {w : Cond} {s U : State} (hk : tx_k w = true) (hW : s.WarmedH U.vm) (h : va_Nw w s) : va_Nw w U := by
  cases w with
  | declares x => exact va_Nw.warmD hW h
  | castable a b => exact va_Nw.warmC hW h
  | _ => cases hk
def tx_Z (A : Nat → Prop) (U : State) (H : Heap) : Prop := vx_Zq Bundle.tN "UNASSIGNED_STACK" Bundle.steD A U H ∧ vx_Zq Bundle.tN "SUPPRESSED_SENTINEL" Bundle.listD A U H ∧ ∀ w ∈ tx_N, va_Nw w U
theorem tx_Z.warm {A : Nat → Prop} {s U : State} {H : Heap} (hW : s.WarmedH U.vm) (h : tx_Z A s H) : tx_Z A U H := ⟨vx_Zq.moved hW.alike h.1, vx_Zq.moved hW.alike h.2.1, fun w hw => tx_warm (tx_N_k w hw) hW (h.2.2 w hw)⟩
theorem tx_Z.same {A : Nat → Prop} {s U : State} {H : Heap} (hv : U.vm = s.vm) (h : tx_Z A s H) : tx_Z A U H := ⟨vx_Zq.moved (by rw [hv]; exact Vm.Alike.refl _) h.1, vx_Zq.moved (by rw [hv]; exact Vm.Alike.refl _) h.2.1, fun w hw => va_Nw.same (tx_N_t w hw) hv.symm (h.2.2 w hw)⟩
theorem tx_Z.kept {A : Nat → Prop} {U : State} {H H1 : Heap} (h : tx_Z A U H) (hq : ∀ a : Nat, a < H.size → ¬ A a → H1[a]? = H[a]?) : tx_Z A U H1 := ⟨h.1.kept hq, h.2.1.kept hq, h.2.2⟩
theorem tx_Z.narrow {A B : Nat → Prop} {U : State} {H : Heap} (h : tx_Z A U H) (hAB : ∀ q, B q → A q) : tx_Z B U H := ⟨h.1.narrow hAB, h.2.1.narrow hAB, h.2.2⟩
section TXW
variable {p : Program} {l : Launch} {e : Env} {R : Room} {s : State} {m : MethodId} {args : Array Value} {below : List Frame} {meth : Method} {c : Code} {H : Heap} {locs : List Loc} {cells slots : Nat}
variable {mc ms : Nat} {free : Addr → Prop} {ls : Array Slot} {rest : List Value} {Qc : Array Value → State → Outcome → State → Prop} {XC : String → State → State → Prop}
set_option maxHeartbeats 1000000 in
theorem tx_throw {cc : ByteArray} {pc sa : Nat} {text : String} {A : Nat → Prop} (hexec : p.tables.exec = Jvm.exec) (hb : c.code = cc) (hl : l.stackTraces = false) (hown : s.vm.findClass "GlassRoom" = some m.cls)
    (hts : ∀ w ∈ rx_gw, w.before args s = true) (hstr : vk_R "GlassRoom" 150 text sa s) (hZ : tx_Z A s s.heap) (hS : va_S A s.heap H locs) (hsize : ls.size = c.maxLocals)
    (hk0 : Cond.classLink "GlassRoom" 148 tx_X ∈ rx_gw) (hi0 : Cond.initialized tx_X ∈ rx_gw)
    (d0 : decode cc pc = .ok (.new 148, 3)) (d3 : decode cc (pc + 3) = .ok (.dup, 1)) (d4 : decode cc (pc + 4) = .ok (.ldc 150, 2)) (d6 : decode cc (pc + 6) = .ok (.invokespecial 152, 3)) (d9 : decode cc (pc + 9) = .ok (.athrow, 1))
    (hout : ∀ x ∈ c.exceptionTable.toList, covers x (pc + 9) = false)
    (hRf : 5 < R.frames) (hRl : (rest.map fun v => v.category).sum + 82 ≤ R.locals) (hRc : cells + 1 ≤ R.cells) (hRs : slots + 6 ≤ R.slots) (hlocks : meth.locks = false)
    (hx : ∀ t : State, s.vm.Alike t.vm → H.size ≤ t.heap.size → (∀ q : Nat, q < H.size → t.heap[q]? = H[q]?) → XC tx_X s t)
    (hf : ∀ z ∈ locs, free z.base) (hc : cells + 1 ≤ mc) (hs : slots + 6 ≤ ms) :
    W p l e R s m args below meth c H locs cells slots (vx_MQ below Qc XC args s mc ms free) (F0 m pc ls rest) := by
  intro T hT X
  have htr : e.platform.stackTraces = false := (show e.platform.stackTraces = l.stackTraces by rw [X.admits.platform]).trans hl
  have Y := vx_rebase X (R' := { frames := R.frames, locals := R.locals, cells := 1, slots := 6 }) (Nat.le_refl _) (Nat.le_refl _) hRc hRs
  obtain ⟨s', hA⟩ : ∃ z, z = (T.setVm s.vm).setFrames (.invoking m args :: below) := ⟨_, rfl⟩
  rw [← hA] at Y
  have hvm : s'.vm = s.vm := by rw [hA]; rfl
  have hhp : s'.heap = H := by rw [hA]; exact hT
  have hW0 : s.WarmedH s'.vm := by rw [hvm]; exact State.WarmedH.refl s
  have hgw : ∀ w ∈ rx_gw, w.before args s' = true := fun w hw => word_at hW0 (good_of_word (List.mem_filter.mp hw).2) (hts w hw)
  have hZ' : tx_Z A s' s'.heap := by
    rw [hhp]
    exact (hZ.kept hS.2.1).warm hW0
  have hat : ∀ w ∈ tx_V, w.before args s' = true := fun w hw => by
    by_cases g : goodWord w = true
    · exact hgw w (List.mem_filter.mpr ⟨tx_G_in w (List.mem_filter.mpr ⟨hw, g⟩), g⟩)
    · have hn : w ∈ tx_N := List.mem_filter.mpr ⟨hw, by simpa using g⟩
      exact va_Nw.use (tx_N_t w hn) (hZ'.2.2 w hn)
  have h : ∀ w ∈ tx_L "GlassRoom" 152, w.before args s' = true := vx_own hat (vx_isRefq hZ'.1.1) (vx_isRefq hZ'.2.1.1) hZ'.1.2.word hZ'.2.1.2.word
  have hown' : s'.vm.findClass "GlassRoom" = some m.cls := by rw [hvm]; exact hown
  have hins : (Cond.instantiable tx_X 6).before args s' = true := h _ (List.mem_append_right _ (List.mem_append_right _ (List.mem_append_right _ (List.mem_append_right _ (List.mem_of_getElem? (i := 1) rfl)))))
  obtain ⟨vm₁, cX, kX, hfX, hkX, -, -, X₁, st1⟩ := Y.newCold hexec (own := "GlassRoom") (C := tx_X) (index := 148) (n := 6) hown' (hgw _ hk0) hins (hgw _ hi0)
    (g := F0 m pc ls rest) rfl (by rw [hb]; exact d0) (Nat.le_refl _) (Nat.le_refl _)
  generalize hT1 : (T.setVm vm₁).pushCell { cls := cX, slots := kX.instanceTypes.map defaultValue, vm := .none } = T1 at X₁ st1
  have hcat : (Value.ref T.heap.size).category = 1 := rfl
  have hcellA : T1.heap[T.heap.size]? = some (freshCell cX kX) := by rw [← hT1]; exact State.heap_pushCell_size _ _
  have d3' : decode c.code (pc + 3) = .ok (.dup, 1) := by rw [hb]; exact d3
  have d4' : decode c.code (pc + 4) = .ok (.ldc 150, 2) := by rw [hb]; exact d4
  have hstr' : vk_R "GlassRoom" 150 text sa s' := vk_R.warm hW0 hstr
  obtain ⟨U, ce, hsteps, ⟨hrun, hend⟩, hW, hsame, hce, hvn, hcl⟩ := tx_ctor (pc := pc + 6) (sa := sa) (rest := rest) X₁ hexec htr hown' h hfX hkX hcellA (by rw [hhp, hT]; exact Nat.le_refl _) hsize (by rw [hb]; exact d6) (by rw [hb]; exact d9) hout hRf hRl hlocks
  obtain ⟨f1, f2⟩ := vx_frame hsame
  rw [hhp] at f1 f2
  have hWs : s.WarmedH U.vm := State.WarmedH.trans hW0 hW
  have hcl' : s.vm.findClass tx_X = some ce.cls := by
    rw [hvm] at hcl
    exact hcl
  have hall : s.sameButNew ({ U with vm := s.vm } : State) locs mc ms := by
    subst hA
    obtain ⟨e1, e2⟩ := hsame
    rw [State.setFrames_setFrames] at e1
    have h2 : (T.setVm s.vm).sameButNew ({ U with vm := s.vm } : State) [] (0 + 1) (0 + 6) := ⟨e1, e2⟩
    have h3 := X.same.trans h2
    rw [List.append_nil] at h3
    exact h3.mono hc hs
  refine ⟨U, ?_, .threw T.heap.size, hrun, hend, Or.inr ⟨T.heap.size, rfl, tx_X, ce, locs, hx U hWs.alike f1 (fun q hq => f2 q hq (fun z hz => nomatch hz)), hce, hvn, hcl', hWs, hall, hf⟩⟩
  refine st1 _ ?_
  show Steps p.tables e below (T1.setTop { method := m, pc := pc + 3, locals := ls, stack := .ref T.heap.size :: rest, locked := none }) _
  jvm_step X₁.here [X₁.here.top, hexec, d3', Value.category]
  exact X₁.ldcString hexec (own := "GlassRoom") (text := text) (index := 150) (a := sa) hown' hstr'.1 hstr'.2
    (g := { method := m, pc := pc + 4, locals := ls, stack := .ref T.heap.size :: .ref T.heap.size :: rest, locked := none }) rfl d4' _ hsteps
end TXW
/-! GlassRoom.body where it throws -/
def bx_rm : Room := { frames := 12, cells := 1, slots := 6, locals := 640 }
def bx_X (G : rx_Gh) (hp : rx_Hp) : String → State → State → Prop := fun E st t => E = tx_X ∧ va_P G.2.1 vwCl (rx_wd wC G hp) t.heap ∧ va_F (rx_A wC G) st t
def bx_B (G : rx_Gh) (hp : rx_Hp) (U : State) : Prop := rx_B wC G hp U ∧ tx_Z (rx_A wC G) U U.heap
/-- from here on, in body, to its throw -/
def Rx (G : rx_Gh) (hp : rx_Hp) (pc : Nat) (lv : List (Option Value)) (st : List Value) : Prop :=
  ∀ (p : Program) (e : Env) (s : State) (m : MethodId) (args : Array Value) (below : List Frame) (meth : Method) (c : Code) (H : Heap) (locs : List Loc) (ls : Array Slot), rx_Cx wC G q_GR_body p s m args meth c ∧ tx_Z (rx_A wC G) s s.heap ∧ (∀ x ∈ c.exceptionTable.toList, False) → lv_has ls q_GR_body.2.2.1 (rx_lv G.2.2.1 lv) → va_P G.2.1 vwCl (rx_wd wC G hp) H → va_S (rx_A wC G) s.heap H locs →
    W p G.1 e bx_rm s m args below meth c H locs 0 0 (vx_MQ below (fun _ _ _ _ => False) (bx_X G hp) args s 1 6 (rx_A wC G)) (F0 m pc ls (st.map (rx_tr G.2.2.1)))
theorem rx_cell_o {Ω : rx_Om} {G : rx_Gh} {hp : rx_Hp} {b ci : Nat} (hk : Ω.2.1 b = .inl ci) : rx_cell Ω G hp b = .inr (ci, rx_fs Ω G.2.2.1 hp b (rx_sh ci)) := by simp only [rx_cell, hk]
theorem rx_fs_r {Ω : rx_Om} {G : rx_Gh} {hp : rx_Hp} {b ci j r : Nat} (hs : (rx_sh ci)[j]? = some true) (hr : Ω.2.2 hp.2.2 b j = some r) : (rx_fs Ω G.2.2.1 hp b (rx_sh ci))[j]? = some (.ref (G.2.2.1 r)) := by
  rw [rx_fs_get hs]
  simp [rx_fv, hr, va_rf]
section BX
variable {G : rx_Gh} {hp : rx_Hp} {pc : Nat} {lv : List (Option Value)} {st : List Value}
theorem x_aload_n {f : Fin 4} {i : Nat} {x : Nat} (hd : decode q_GR_body.2.1 pc = .ok (.aload_n f, 1)) (hi : (f : Nat) = i) (hx : lv[i]? = some (some (.ref x))) (k : Rx G hp (pc + 1) lv (.ref x :: st)) : Rx G hp pc lv st :=
  fun p e s m args below meth c H locs ls C hl hP hS => lv_aload_n C.1.1 C.1.2.1 hd hi (rx_ld hl hx) (k p e s m args below meth c H locs ls C hl hP hS)
theorem x_iload_n {f : Fin 4} {i : Nat} {x : Int32} (hd : decode q_GR_body.2.1 pc = .ok (.iload_n f, 1)) (hi : (f : Nat) = i) (hx : lv[i]? = some (some (.int x))) (k : Rx G hp (pc + 1) lv (.int x :: st)) : Rx G hp pc lv st :=
  fun p e s m args below meth c H locs ls C hl hP hS => lv_iload_n C.1.1 C.1.2.1 hd hi (rx_ld hl hx) (k p e s m args below meth c H locs ls C hl hP hS)
theorem x_iconst {n : Int} {v : Int32} (hd : decode q_GR_body.2.1 pc = .ok (.iconst n, 1)) (hv : Int32.ofInt n = v) (k : Rx G hp (pc + 1) lv (.int v :: st)) : Rx G hp pc lv st :=
  fun p e s m args below meth c H locs ls C hl hP hS => lv_iconst C.1.1 C.1.2.1 hd hv (k p e s m args below meth c H locs ls C hl hP hS)
theorem x_if_eq {x : Int32} {off : Int} {tgt : Nat} (hd : decode q_GR_body.2.1 pc = .ok (.ifCond .eq off, 3)) (ht : (pc : Int) + off = (tgt : Int)) (kt : (x = 0) → Rx G hp tgt lv st) (kf : ¬ (x = 0) → Rx G hp (pc + 3) lv st) : Rx G hp pc lv (.int x :: st) :=
  fun p e s m args below meth c H locs ls C hl hP hS => lv_if_eq C.1.1 C.1.2.1 hd ht (fun h => kt h p e s m args below meth c H locs ls C hl hP hS) (fun h => kf h p e s m args below meth c H locs ls C hl hP hS)
theorem x_if_lt {x : Int32} {off : Int} {tgt : Nat} (hd : decode q_GR_body.2.1 pc = .ok (.ifCond .lt off, 3)) (ht : (pc : Int) + off = (tgt : Int)) (kt : (x < 0) → Rx G hp tgt lv st) (kf : ¬ (x < 0) → Rx G hp (pc + 3) lv st) : Rx G hp pc lv (.int x :: st) :=
  fun p e s m args below meth c H locs ls C hl hP hS => lv_if_lt C.1.1 C.1.2.1 hd ht (fun h => kt h p e s m args below meth c H locs ls C hl hP hS) (fun h => kf h p e s m args below meth c H locs ls C hl hP hS)
theorem x_icmp_le {x y : Int32} {off : Int} {tgt : Nat} (hd : decode q_GR_body.2.1 pc = .ok (.if_icmp .le off, 3)) (ht : (pc : Int) + off = (tgt : Int)) (kt : (x ≤ y) → Rx G hp tgt lv st) (kf : ¬ (x ≤ y) → Rx G hp (pc + 3) lv st) : Rx G hp pc lv (.int y :: .int x :: st) :=
  fun p e s m args below meth c H locs ls C hl hP hS => lv_icmp_le C.1.1 C.1.2.1 hd ht (fun h => kt h p e s m args below meth c H locs ls C hl hP hS) (fun h => kf h p e s m args below meth c H locs ls C hl hP hS)
theorem x_getR {b ci j idx r : Nat} (hd : decode q_GR_body.2.1 pc = .ok (.getfield idx, 3)) (hF : rx_F q_GR_body.1.cls idx ci j) (hb : b < wC.1) (hk : wC.2.1 b = .inl ci) (hs : (rx_sh ci)[j]? = some true) (hr : wC.2.2 hp.2.2 b j = some r) (k : Rx G hp (pc + 3) lv (.ref r :: st)) : Rx G hp pc lv (.ref b :: st) := by
  intro p e s m args below meth c H locs ls C hl hP hS
  obtain ⟨⟨cn, cT, cN⟩, h1, h2, h3, h4⟩ := hF
  have hc := rx_cell_o (G := G) (hp := hp) hk
  have hv := rx_fs_r (G := G) hs hr
  exact va_get C.1.1 C.1.2.1 C.1.2.2.2.2.2.1 h4 C.1.2.2.2.2.1 C.1.2.2.2.2.2.2.2.2.1 hP b (by rw [rx_wd_get hb, hc]) h1 j h2 (C.1.2.2.2.2.2.1 _ h3) (fun _ h9 => h9) hv hd (k p e s m args below meth c H locs ls C hl hP hS)
theorem x_has {a1 : Int32} (hd : decode q_GR_body.2.1 pc = .ok (.invokevirtual 144, 3)) (k : Rx G hp (pc + 3) lv [.int (f_Ha_has a1 hp)]) : Rx G hp pc lv [.int a1, .ref 3] := by
  intro p e s m args below meth c H locs ls C hl hP hS
  have hE : Ev wC G 1 q_Ha_has [.ref 3, .int a1] hp (rI fun x h => x = f_Ha_has a1 hp ∧ h = hp) := s_Ha_has a1 ⟨rfl, rfl⟩
  obtain ⟨⟨k1, k2, k3⟩, k4, k5, k6, k7⟩ := ml_GR_144
  have hc : rx_cell wC G hp 3 = .inr (3, rx_fs wC G.2.2.1 hp 3 (rx_sh 3)) := rfl
  refine rx_go (va_runV (As := [Value.int a1]) (b := G.2.2.1 3) (rest := []) (nL := q_GR_body.2.2.1) (Ts := rx_gw) (own := "GlassRoom") (C := q_Ha_has.1.cls) (n := 1) (index := 144) ⟨C.1.1, C.1.2.1, C.1.2.2.2.1, C.1.2.2.2.2.1, C.1.2.2.2.2.2.1⟩ hE
    (cwV 1 C.1.2.2.2.2.2.1 (rx_good ?_) rfl rfl rfl ⟨rfl, k6⟩ ⟨by decide, by decide⟩) ⟨rx_blind, ?_, fun U hU hW => ⟨rfl, rx_pre C.1 hP hS U hU hW⟩⟩ rfl rfl hl.1 rfl (lv_room (st := []) (by decide)) hd ⟨by decide, by decide⟩) hS
    (fun r hp' H1 locs1 hq hP1 hS1 => ?_)
  · intro w hw
    rcases List.mem_append.mp hw with h | h
    · simp only [List.mem_cons, List.not_mem_nil, or_false] at h
      rcases h with rfl | rfl | rfl | rfl
      · exact k1
      · exact k2
      · exact k3
      · exact k4
    · rcases List.mem_cons.mp h with rfl | h
      · exact k5
      · exact h
  · exact va_recv (s := s) (H := H) C.1.2.2.2.2.2.2.2.2.1 hP rfl (by rw [rx_wd_get (k := 3) (show 3 < 50 from by decide), hc])
  · obtain ⟨v, rfl, rfl, rfl⟩ := hq
    exact k p e s m args below meth c H1 locs1 ls C hl hP1 hS1
end BX

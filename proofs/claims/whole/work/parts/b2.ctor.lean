/-! constructors: the lifted rules (cells by their addresses, a list that grows) -/
abbrev rc_I (G : rx_Gh) : List (ClassId × FieldType) := [(G.2.2.2.1, .int)]
/-- a new row of ints -/
abbrev rc_r (G : rx_Gh) (n : Nat) : va_E := .inl (G.2.2.2.1, n, .inl fun _ => 0)
def rc_A0 (G : rx_Gh) : Nat → Prop := fun q => G.2.2.2.2.2 ≤ q
def rc_NL : List Cond := [.methodLinkNest "GlassRoom" 11 ⟨"GlassRoom$Tape", "<init>", "()V"⟩ "GlassRoom", .methodLinkNest "GlassRoom" 18 ⟨"GlassRoom$Hall", "<init>", "()V"⟩ "GlassRoom", .methodLinkNest "GlassRoom$HallReader" 20 ⟨"GlassRoom$Hall", "<init>", "()V"⟩ "GlassRoom", .methodLinkNest "GlassRoom$LightReader" 17 ⟨"GlassRoom$Light", "<init>", "()V"⟩ "GlassRoom", .methodLinkNest "GlassRoom" 45 ⟨"GlassRoom$Light", "<init>", "()V"⟩ "GlassRoom", .methodLinkNest "GlassRoom" 55 ⟨"GlassRoom$Acts", "<init>", "()V"⟩ "GlassRoom"]
def rc_O (U : State) : Prop := va_AO "GlassRoom$Light" U ∧ ∀ w ∈ rc_NL, va_Nw w U
theorem rc_O.warm {s U : State} (hW : s.WarmedH U.vm) (h : rc_O s) : rc_O U := by
  refine ⟨va_AO.moved hW.alike h.1, fun w hw => ?_⟩
  have hn := h.2 w hw
  unfold rc_NL at hw
  simp only [List.mem_cons, List.not_mem_nil, or_false] at hw
  rcases hw with rfl | rfl | rfl | rfl | rfl | rfl <;> exact va_Nw.warmM hW hn
theorem rc_O.same {u U : State} (hv : U.vm = u.vm) (h : rc_O u) : rc_O U := by
  refine ⟨va_AO.moved (by rw [hv]; exact Vm.Alike.refl _) h.1, fun w hw => ?_⟩
  have hn := h.2 w hw
  unfold rc_NL at hw
  simp only [List.mem_cons, List.not_mem_nil, or_false] at hw
  rcases hw with rfl | rfl | rfl | rfl | rfl | rfl <;> exact va_Nw.same rfl hv.symm hn
def rc_Cx (G : rx_Gh) (q : rx_Mi) (p : Program) (s : State) (m : MethodId) (args : Array Value) (meth : Method) (c : Code) : Prop :=
  p.tables.exec = Jvm.exec ∧ c.code = q.2.1 ∧ meth.sig.returnType = q.2.2.2 ∧ c.maxLocals = q.2.2.1 ∧ s.vm.findClass q.1.cls = some m.cls ∧ (∀ w ∈ rx_gw, w.before args s = true) ∧ meth.locks = false ∧ meth.name = "<init>" ∧ rx_St G (rc_A0 G) s s.heap ∧ rc_O s
abbrev rc_T : Type := List (ClassId × FieldType)
def rc_Q (G : rx_Gh) (A : Nat → Prop) (Q : rc_T → va_W → Prop) : Array Value → State → Outcome → State → Prop := va_Qv (S := rc_T × va_W) (fun u => Q u.1 u.2) (fun u t => va_P G.2.1 vwCl u.2 t.heap ∧ va_D A u.2 ∧ va_K G.2.1 vwCl u.1 t) A
/-- from here on, in a constructor -/
def Rc (G : rx_Gh) (R : Room) (mc ms : Nat) (q : rx_Mi) (A : Nat → Prop) (ty : rc_T) (pc : Nat) (lv : List (Option Value)) (st : List Value) (ws : va_W) (ce sl : Nat) (Q : rc_T → va_W → Prop) : Prop :=
  ∀ (p : Program) (e : Env) (s : State) (m : MethodId) (args : Array Value) (below : List Frame) (meth : Method) (c : Code) (H : Heap) (locs : List Loc) (ls : Array Slot), rc_Cx G q p s m args meth c ∧ va_K G.2.1 vwCl ty s → ((∀ z : Nat, s.heap.size ≤ z → A z) ∧ ∀ z : Nat, A z → G.2.2.2.2.2 ≤ z) → lv_has ls q.2.2.1 (rx_lv id lv) → va_P G.2.1 vwCl ws H → va_D A ws → va_S A s.heap H locs →
    W p G.1 e R s m args below meth c H locs ce sl (MQ below (rc_Q G A Q) args s mc ms A) (F0 m pc ls st)
/-- a constructor's contract: of the new cell h0 it makes the cells w with Q w -/
def Ec (G : rx_Gh) (R : Room) (mc ms : Nat) (q : rx_Mi) (h0 : Nat) (As : List Value) (x0 : va_E) (sz : Nat) (Q : rc_T → va_W → Prop) : Prop :=
  Met G.1 q.1 (rx_ws q) R (va_Pc (.ref h0 :: As) (fun U => U.heap.size = sz ∧ va_P G.2.1 vwCl [(h0, x0)] U.heap ∧ va_K G.2.1 vwCl (rc_I G) U ∧ rx_St G (rc_A0 G) U U.heap ∧ rc_O U)) (rc_Q G (va_A [(h0, x0)] sz) Q) mc ms (va_A [(h0, x0)] sz)
section RCT
variable {G : rx_Gh} {R : Room} {mc ms : Nat} {q : rx_Mi} {A : Nat → Prop} {ty : rc_T} {pc : Nat} {lv : List (Option Value)} {st : List Value} {ws : va_W} {ce sl : Nat} {Q : rc_T → va_W → Prop}
theorem c_iconst {n : Int} {v : Int32} (hd : decode q.2.1 pc = .ok (.iconst n, 1)) (hv : Int32.ofInt n = v) (k : Rc G R mc ms q A ty (pc + 1) lv (.int v :: st) ws ce sl Q) : Rc G R mc ms q A ty pc lv st ws ce sl Q :=
  fun p e s m args below meth c H locs ls C hA hl hP hD hS => lv_iconst C.1.1 C.1.2.1 hd hv (k p e s m args below meth c H locs ls C hA hl hP hD hS)
theorem c_bipush {n : Int} {v : Int32} (hd : decode q.2.1 pc = .ok (.bipush n, 2)) (hv : (Int8.ofInt n).toInt32 = v) (k : Rc G R mc ms q A ty (pc + 2) lv (.int v :: st) ws ce sl Q) : Rc G R mc ms q A ty pc lv st ws ce sl Q :=
  fun p e s m args below meth c H locs ls C hA hl hP hD hS => lv_bipush C.1.1 C.1.2.1 hd hv (k p e s m args below meth c H locs ls C hA hl hP hD hS)
theorem c_sipush {n : Int} {v : Int32} (hd : decode q.2.1 pc = .ok (.sipush n, 3)) (hv : (Int16.ofInt n).toInt32 = v) (k : Rc G R mc ms q A ty (pc + 3) lv (.int v :: st) ws ce sl Q) : Rc G R mc ms q A ty pc lv st ws ce sl Q :=
  fun p e s m args below meth c H locs ls C hA hl hP hD hS => lv_sipush C.1.1 C.1.2.1 hd hv (k p e s m args below meth c H locs ls C hA hl hP hD hS)
theorem c_aload_n {f : Fin 4} {i : Nat} {x : Nat} (hd : decode q.2.1 pc = .ok (.aload_n f, 1)) (hi : (f : Nat) = i) (hx : lv[i]? = some (some (.ref x))) (k : Rc G R mc ms q A ty (pc + 1) lv (.ref x :: st) ws ce sl Q) : Rc G R mc ms q A ty pc lv st ws ce sl Q :=
  fun p e s m args below meth c H locs ls C hA hl hP hD hS => lv_aload_n C.1.1 C.1.2.1 hd hi (rx_ld hl hx) (k p e s m args below meth c H locs ls C hA hl hP hD hS)
theorem c_iload_n {f : Fin 4} {i : Nat} {x : Int32} (hd : decode q.2.1 pc = .ok (.iload_n f, 1)) (hi : (f : Nat) = i) (hx : lv[i]? = some (some (.int x))) (k : Rc G R mc ms q A ty (pc + 1) lv (.int x :: st) ws ce sl Q) : Rc G R mc ms q A ty pc lv st ws ce sl Q :=
  fun p e s m args below meth c H locs ls C hA hl hP hD hS => lv_iload_n C.1.1 C.1.2.1 hd hi (rx_ld hl hx) (k p e s m args below meth c H locs ls C hA hl hP hD hS)
theorem c_istore_n {f : Fin 4} {i : Nat} {x : Int32} (hd : decode q.2.1 pc = .ok (.istore_n f, 1)) (hi : (f : Nat) = i) (hn : i < q.2.2.1) (ho : rx_okS lv i = true) {lz : List (Option Value)} (he : lv.set i (some (.int x)) = lz) (k : Rc G R mc ms q A ty (pc + 1) lz st ws ce sl Q) : Rc G R mc ms q A ty pc lv (.int x :: st) ws ce sl Q :=
  fun p e s m args below meth c H locs ls C hA hl hP hD hS => lv_istore_n C.1.1 C.1.2.1 hd hi hl hn rfl (fun ls h => k p e s m args below meth c H locs ls C hA (he ▸ rx_st1 (v := .int x) h ho) hP hD hS)
theorem c_iinc {i : Nat} {n : Int} {x v : Int32} (hd : decode q.2.1 pc = .ok (.iinc i n, 3)) (hx : lv[i]? = some (some (.int x))) (hv : x + Int32.ofInt n = v) (hn : i < q.2.2.1) (ho : rx_okS lv i = true) {lz : List (Option Value)} (he : lv.set i (some (.int v)) = lz) (k : Rc G R mc ms q A ty (pc + 3) lz st ws ce sl Q) : Rc G R mc ms q A ty pc lv st ws ce sl Q := by
  intro p e s m args below meth c H locs ls C hA hl hP hD hS

  obtain ⟨j, hj⟩ := List.getElem?_of_mem (rx_lv_mem.mpr ⟨i, .int x, hx, rfl⟩ : (i, Value.int x) ∈ rx_lv id lv)
  exact lv_iinc C.1.1 C.1.2.1 hd hl hj hv hn rfl (fun ls h => k p e s m args below meth c H locs ls C hA (he ▸ rx_st1 (v := .int v) h ho) hP hD hS)
theorem c_goto {off : Int} {tgt : Nat} (hd : decode q.2.1 pc = .ok (.goto off, 3)) (ht : (pc : Int) + off = (tgt : Int)) (k : Rc G R mc ms q A ty tgt lv st ws ce sl Q) : Rc G R mc ms q A ty pc lv st ws ce sl Q :=
  fun p e s m args below meth c H locs ls C hA hl hP hD hS => lv_goto C.1.1 C.1.2.1 hd ht (k p e s m args below meth c H locs ls C hA hl hP hD hS)
theorem c_icmp_ge {x y : Int32} {off : Int} {tgt : Nat} (hd : decode q.2.1 pc = .ok (.if_icmp .ge off, 3)) (ht : (pc : Int) + off = (tgt : Int)) (kt : (y ≤ x) → Rc G R mc ms q A ty tgt lv st ws ce sl Q) (kf : ¬ (y ≤ x) → Rc G R mc ms q A ty (pc + 3) lv st ws ce sl Q) : Rc G R mc ms q A ty pc lv (.int y :: .int x :: st) ws ce sl Q :=
  fun p e s m args below meth c H locs ls C hA hl hP hD hS => lv_icmp_ge C.1.1 C.1.2.1 hd ht (fun z => kt z p e s m args below meth c H locs ls C hA hl hP hD hS) (fun z => kf z p e s m args below meth c H locs ls C hA hl hP hD hS)
theorem c_dup {x : Nat} (hd : decode q.2.1 pc = .ok (.dup, 1)) (k : Rc G R mc ms q A ty (pc + 1) lv (.ref x :: .ref x :: st) ws ce sl Q) : Rc G R mc ms q A ty pc lv (.ref x :: st) ws ce sl Q :=
  fun p e s m args below meth c H locs ls C hA hl hP hD hS => lv_dup C.1.1 C.1.2.1 hd rfl (k p e s m args below meth c H locs ls C hA hl hP hD hS)
end RCT

/-! constructors: the rules of the heap -/
section RCH
variable {G : rx_Gh} {R : Room} {mc ms : Nat} {q : rx_Mi} {A : Nat → Prop} {ty : rc_T} {pc : Nat} {lv : List (Option Value)} {st : List Value} {ws : va_W} {ce sl : Nat} {Q : rc_T → va_W → Prop}
theorem c_obj {idx a : Nat} (hd : decode q.2.1 pc = .ok (.invokespecial idx, 3)) (h1 : Cond.methodLink q.1.cls idx Lib.objectInit ∈ rx_gw) (h2 : Cond.instanceMethod Lib.objectInit ∈ rx_gw) (h3 : Cond.code Lib.objectInit ⟨#[0xb1]⟩ 1 none ∈ rx_gw) (hf : 1 ≤ R.frames) (ho : (st.map fun v => v.category).sum + 12 ≤ R.locals) (k : Rc G R mc ms q A ty (pc + 3) lv st ws ce sl Q) : Rc G R mc ms q A ty pc lv (.ref a :: st) ws ce sl Q :=
  fun p e s m args below meth c H locs ls C hA hl hP hD hS => W.objInit C.1.1 C.1.2.1 C.1.2.2.2.2.1 (C.1.2.2.2.2.2.1 _ h1) (C.1.2.2.2.2.2.1 _ h2) (C.1.2.2.2.2.2.1 _ h3) rfl (by rw [C.1.2.2.2.1]; exact hl.1) rfl hd hf (by show 2 * 0 + _ + 12 ≤ _; omega) (k p e s m args below meth c H locs ls C hA hl hP hD hS)
theorem c_newI {n : Int32} {N : Nat} (hd : decode q.2.1 pc = .ok (.newarray .int, 2)) (h1 : Cond.arrayClass .int ∈ rx_gw) (ht : ty[0]? = some (G.2.2.2.1, .int)) (hn : ¬ n < 0) (hN : n.toNatClampNeg = N) (hb : N ≤ 100000) (hc : ce + 1 ≤ R.cells) (hs : sl + N ≤ R.slots) (k : ∀ a, Rc G R mc ms q A ty (pc + 2) lv (.ref a :: st) (ws ++ [(a, rc_r G N)]) (ce + 1) (sl + N) Q) : Rc G R mc ms q A ty pc lv (.int n :: st) ws ce sl Q := by
  intro p e s m args below meth c H locs ls C hA hl hP hD hS
  refine va_newa (atype := .int) (ty := .int) (a0 := (N, .inl fun _ => 0)) C.1.1 C.1.2.1 (C.1.2.2.2.2.2.1 _ h1) rfl C.2 hP hD hS hA.1 (fun _ => rfl) hn hN (by show N * 4 ≤ 536870912; omega) hc hs hd (fun a cA H1 hK hP hD hS => ?_)
  have r1 : va_RA s G.2.2.2.1 .int := (C.2.2 0 _ ht).2
  have r2 : va_RA s cA .int := (hK.2 ty.length (cA, .int) (by rw [List.getElem?_append_right (Nat.le_refl _), Nat.sub_self]; rfl)).2
  have e1 : s.vm.findClass ("[" ++ FieldType.int.toString) = some G.2.2.2.1 := r1
  have e2 : s.vm.findClass ("[" ++ FieldType.int.toString) = some cA := r2
  have : cA = G.2.2.2.1 := Option.some.inj (e2.symm.trans e1)
  subst this
  exact k a p e s m args below meth c H1 locs ls C hA hl hP hD hS
/-- a field's place, in its own constructor -/
def rc_P (own : String) (idx ci j : Nat) (fin : Bool) (ft : FieldType) : Prop := ∃ (r : vw_C) (ty0 : Nat → FieldType), vwCl[ci]? = some r ∧ j < r.2.2 ∧ Cond.fieldLink own idx (r.2.1 j).1 (r.2.1 j).2.1 (r.2.1 j).2.2.1 ∈ rx_gw ∧ (∀ w ∈ u_ws r.1 r.2.1 r.2.2, w ∈ rx_gw) ∧ (∀ k, k < r.2.2 → parseFieldDescriptor (r.2.1 k).2.2.1 = some (ty0 k)) ∧ (∀ a, a < r.2.2 → ∀ b, b < r.2.2 → a ≠ b → (r.2.1 a).2.1 ≠ (r.2.1 b).2.1) ∧ (r.2.1 j).2.2.2 = fin ∧ (r.2.1 j).1 = own ∧ parseFieldDescriptor (r.2.1 j).2.2.1 = some ft
theorem c_put {idx ci j a q0 : Nat} {fin : Bool} {ft : FieldType} {v : Value} {fs : List Value} {wz : va_W} (hd : decode q.2.1 pc = .ok (.putfield idx, 3)) (hF : rc_P q.1.cls idx ci j fin ft) (he : ws[q0]? = some (a, .inr (ci, fs))) (hn : narrow ft v = v) (hf : fits ft v = true) (hl0 : j < fs.length) (hw : ws.set q0 (a, .inr (ci, fs.set j v)) = wz) (k : Rc G R mc ms q A ty (pc + 3) lv st wz ce sl Q) : Rc G R mc ms q A ty pc lv (v :: .ref a :: st) ws ce sl Q := by
  intro p e s m args below meth c H locs ls C hA hl hP hD hS
  obtain ⟨r, ty0, f1, f2, f3, f4, f5, f6, f7, f8, f9⟩ := hF
  subst hw
  cases fin with
  | true => exact va_putF C.1.1 C.1.2.1 C.1.2.2.2.2.2.1 f4 ty0 f5 f6 C.1.2.2.2.2.1 C.2 hP hD hS q0 he f1 j f2 (C.1.2.2.2.2.2.1 _ f3) (fun _ h9 => h9) f7 C.1.2.2.2.2.2.2.2.1 f8 f9 hn hf hl0 hd (fun H1 locs1 hP hD hS => k p e s m args below meth c H1 locs1 ls C hA hl hP hD hS)
  | false => exact va_put C.1.1 C.1.2.1 C.1.2.2.2.2.2.1 f4 ty0 f5 f6 C.1.2.2.2.2.1 C.2 hP hD hS q0 he f1 j f2 (C.1.2.2.2.2.2.1 _ f3) (fun _ h9 => h9) f7 f9 hn hf hl0 hd (fun H1 locs1 hP hD hS => k p e s m args below meth c H1 locs1 ls C hA hl hP hD hS)
theorem c_get {idx ci j a q0 : Nat} {v : Value} {fs : List Value} (hd : decode q.2.1 pc = .ok (.getfield idx, 3)) (hF : rx_F q.1.cls idx ci j) (he : ws[q0]? = some (a, .inr (ci, fs))) (hv : fs[j]? = some v) (k : Rc G R mc ms q A ty (pc + 3) lv (v :: st) ws ce sl Q) : Rc G R mc ms q A ty pc lv (.ref a :: st) ws ce sl Q := by
  intro p e s m args below meth c H locs ls C hA hl hP hD hS
  obtain ⟨r, f1, f2, f3, f4⟩ := hF
  exact va_get C.1.1 C.1.2.1 C.1.2.2.2.2.2.1 f4 C.1.2.2.2.2.1 C.2 hP q0 he f1 j f2 (C.1.2.2.2.2.2.1 _ f3) (fun _ h9 => h9) hv hd (k p e s m args below meth c H locs ls C hA hl hP hD hS)
/-- a class that is made -/
def rc_N (own : String) (idx ci N : Nat) (fs : List Value) : Prop := ∃ (c : String) (T : u_T) (ty0 : Nat → FieldType), vwCl[ci]? = some (c, T, N) ∧ (∀ w ∈ u_ws c T N, w ∈ rx_gw) ∧ (∀ k, k < N → parseFieldDescriptor (T k).2.2.1 = some (ty0 k)) ∧ Cond.classLink own idx c ∈ rx_gw ∧ Cond.instantiable c N ∈ rx_gw ∧ Cond.initialized c ∈ rx_gw ∧ (∀ j, j < N → defaultValue (ty0 j) = vp_V fs j)
theorem c_new {idx ci N : Nat} {fs : List Value} (hd : decode q.2.1 pc = .ok (.new idx, 3)) (hN : rc_N q.1.cls idx ci N fs) (hc : ce + 1 ≤ R.cells) (hs : sl + N ≤ R.slots) (k : ∀ a, Rc G R mc ms q A ty (pc + 3) lv (.ref a :: st) (ws ++ [(a, .inr (ci, fs))]) (ce + 1) (sl + N) Q) : Rc G R mc ms q A ty pc lv st ws ce sl Q := by
  intro p e s m args below meth c H locs ls C hA hl hP hD hS
  obtain ⟨cn, T, ty0, f1, f2, f3, f4, f5, f6, f7⟩ := hN
  exact va_new C.1.1 C.1.2.1 C.1.2.2.2.2.2.1 f2 ty0 f3 C.1.2.2.2.2.1 (C.1.2.2.2.2.2.1 _ f4) (C.1.2.2.2.2.2.1 _ f5) (C.1.2.2.2.2.2.1 _ f6) C.2 hP hD hS hA.1 f1 f7 hc hs hd (fun a H1 hP hD hS => k a p e s m args below meth c H1 locs ls C hA hl hP hD hS)
theorem c_vret (hd : decode q.2.1 pc = .ok (.return_, 1)) (hr : q.2.2.2 = none) (h1 : ce = mc) (h2 : sl = ms) (h : Q ty ws) : Rc G R mc ms q A ty pc lv [] ws ce sl Q := by
  intro p e s m args below meth c H locs ls C hA hl hP hD hS
  subst h1 h2
  exact W.vret C.1.1 C.1.2.1 (C.1.2.2.1.trans hr) (fun t ht hW => ⟨⟨(ty, ws), rfl, h, by rw [ht]; exact hP, hD, va_K.moved hW.alike C.2⟩, hS.F ht⟩) hS.2.2 hd C.1.2.2.2.2.2.2.1
/-- a constructor that is called -/
def rc_C (own : String) (idx : Nat) (y : rx_Mi) (n : Nat) : Prop := ((Cond.methodLink own idx y.1 ∈ rx_gw ∨ Cond.methodLinkNest own idx y.1 "GlassRoom" ∈ rc_NL) ∧ Cond.instanceMethod y.1 ∈ rx_gw ∧ y.1.name = "<init>" ∧ y.2.2.2 = none) ∧ rx_CB y n
end RCH

/-! new NoSuchElementException(text): its constructor calls the next one by entry 13, not 7 as vx_throwS wants -/
def tx_X : String := "java/util/NoSuchElementException"
def tx_b : ByteArray := ⟨#[0x2a, 0x2b, 0xb7, 0x00, 0x0d, 0xb1]⟩
def tx_E (own : String) (ic : Nat) : List Cond := [.methodLink own ic (Bundle.initS tx_X), .instantiable tx_X 6, .castable tx_X tx_X, .selects tx_X Bundle.tFill0 Bundle.tFill0, .selects tx_X Bundle.tFill Bundle.tFill,
   .lays tx_X Bundle.tN "cause" "Ljava/lang/Throwable;", .lays tx_X Bundle.tN "stackTrace" Bundle.steD, .lays tx_X Bundle.tN "suppressedExceptions" Bundle.listD, .lays tx_X Bundle.tN "detailMessage" "Ljava/lang/String;",
   .isRef (.static Bundle.tN "UNASSIGNED_STACK" Bundle.steD), .isRef (.static Bundle.tN "SUPPRESSED_SENTINEL" Bundle.listD),
   .fieldLink Bundle.tN 198 Bundle.tN "backtrace" "Ljava/lang/Object;", .lays Bundle.tN Bundle.tN "backtrace" "Ljava/lang/Object;", .lays tx_X Bundle.tN "backtrace" "Ljava/lang/Object;"]
def tx_L (own : String) (ic : Nat) : List Cond := Bundle.throwableAtoms ++ (Bundle.throwableSAtoms ++ (Bundle.passSAtoms tx_X "java/lang/RuntimeException" 13 tx_b ++ (Bundle.chainSAtoms "java/lang/RuntimeException" ["java/lang/Exception"] ++ tx_E own ic)))
section TXC
variable {p : Program} {l : Launch} {e : Env} {R : Room} {s : State} {m₀ : MethodId} {args : Array Value} {below : List Frame} {meth : Method} {c : Code} {W : State} {locs : List Loc} {cells slots : Nat}
set_option maxHeartbeats 2000000 in
theorem tx_ctor (X : Stand p l e R s m₀ args below meth c W locs cells slots) (hexec : p.tables.exec = Jvm.exec) (htr : e.platform.stackTraces = false) {own : String} {ic : Nat} (hown : s.vm.findClass own = some m₀.cls)
    (h : ∀ a ∈ tx_L own ic, a.before args s = true) (hlocs : ∀ x ∈ locs, ∀ cell, s.heap[x.base]? = some cell → cell.vm.isStatics = false)
    {a : Addr} {cX : ClassId} {kX : Class} (hfX : s.vm.findClass tx_X = some cX) (hkX : s.vm.classes[cX]? = some kX) (hcell : W.heap[a]? = some (freshCell cX kX)) (hnew : s.heap.size ≤ a) {msg : Value} (hmsg : msg.isRef = true)
    {g : JFrame} (hg : g.method = m₀) (hsize : g.locals.size = c.maxLocals) (hlocked : g.locked = none) (hentered : g.entered = []) {rest : List Value} (hstack : g.stack = msg :: .ref a :: .ref a :: rest)
    (hd6 : decode c.code g.pc = .ok (.invokespecial ic, 3)) (hd9 : decode c.code (g.pc + 3) = .ok (.athrow, 1)) (hout : ∀ x ∈ c.exceptionTable.toList, covers x (g.pc + 3) = false)
    (hRf : 5 < R.frames) (hRl : 2 * g.monitorRoom + ((Value.ref a :: rest).map fun v => v.category).sum + 81 ≤ R.locals) (hlocks : meth.locks = false) :
    ∃ U : State, Steps p.tables e below (W.setTop g) U ∧ U.status = .running ∧ Ended U below (.threw a) ∧ s.WarmedH U.vm ∧ s.sameButNew ({ U with vm := s.vm } : State) locs cells slots ∧ ∃ ce, U.heap[a]? = some ce ∧ ce.vm = .none ∧ s.vm.findClass tx_X = some ce.cls := by
  have howns : e.platform.frameOwnsMonitors = true := by rw [X.admits.platform]
  have hfin : e.platform.finalization = false := by rw [X.admits.platform]
  have hpl : e.platform.magicAccessors = ({} : Platform).magicAccessors := by rw [X.admits.platform]
  have k1 : ∀ x ∈ Bundle.throwableAtoms, x.before args s = true := fun x hx => h x (List.mem_append_left _ hx)
  have h2 : ∀ x : Cond, x ∈ _ → x.before args s = true := fun x hx => h x (List.mem_append_right _ hx)
  have k2 : ∀ x ∈ Bundle.throwableSAtoms, x.before args s = true := fun x hx => h2 x (List.mem_append_left _ hx)
  have h3 : ∀ x : Cond, x ∈ _ → x.before args s = true := fun x hx => h2 x (List.mem_append_right _ hx)
  have k3 : ∀ x ∈ Bundle.passSAtoms tx_X "java/lang/RuntimeException" 13 tx_b, x.before args s = true := fun x hx => h3 x (List.mem_append_left _ hx)
  have h4 : ∀ x : Cond, x ∈ _ → x.before args s = true := fun x hx => h3 x (List.mem_append_right _ hx)
  have k4 : ∀ x ∈ Bundle.chainSAtoms "java/lang/RuntimeException" ["java/lang/Exception"], x.before args s = true := fun x hx => h4 x (List.mem_append_left _ hx)
  have k5 : ∀ x ∈ tx_E own ic, x.before args s = true := fun x hx => h4 x (List.mem_append_right _ hx)
  clear h h2 h3 h4
  obtain ⟨T, Z0, L, -, Y⟩ := ThrowableC.of_atoms (args := args) howns hfin hpl k1
  obtain ⟨Z, M, LZ, LM, hnZ⟩ := Init0T.ofS_atoms (args := args) hpl L Y k2
  obtain ⟨P1, L1, hP1m, hP1s⟩ := PassC.ofS_atoms (args := args) hpl (X := tx_X) (Y := "java/lang/RuntimeException") (index := 13) (bytes := tx_b) (by decide +kernel) ⟨by decide, by decide⟩ (by decide +kernel) (by decide +kernel) (by decide +kernel) (by decide +kernel) k3
  obtain ⟨P2, Ps, hlen, L2, hL, hP2m, hlink2, hlink⟩ := Bundle.chainS (args := args) hpl hnZ ["java/lang/Exception"] "java/lang/RuntimeException" (by decide +kernel) (by decide +kernel) k4
  have kE : ∀ (n : Nat) (x : Cond), (tx_E own ic)[n]? = some x → x.holds args s none s [] = true := fun n x hx => k5 x (List.mem_of_getElem? hx)
  have hfound : s.vm.findClass tx_X = some P1.m.cls := findClass_of_methodNamed hP1m
  cases Option.some.inj (hfX.symm.trans hfound)
  have hp12 : P1.sup = P2.m := Option.some.inj (hP1s.symm.trans hP2m)
  obtain ⟨c1, kX', hc1, hk, hord, -, -, hn6⟩ := Cond.instantiable_spec (kE 1 _ rfl)
  cases Option.some.inj (hc1.symm.trans hfound)
  cases Option.some.inj (hkX.symm.trans hk)
  have hsel0 : selectMethod e.platform s.vm P1.m.cls T.fill0 = .method T.fill0 := by
    obtain ⟨c2, r2, m2, q1, q2, q3, q4, -⟩ := Cond.selects_spec (kE 3 _ rfl)
    cases Option.some.inj (q1.symm.trans hfound)
    cases Option.some.inj (q2.symm.trans (State.methodFound?_of_named Y.fill0 (by decide)))
    cases Option.some.inj (q3.symm.trans Y.fill0)
    rw [Launch.admits_selectMethod X.admits]
    exact q4
  have hselF : selectMethod e.platform s.vm P1.m.cls T.fill = .method T.fill := by
    obtain ⟨c2, r2, m2, q1, q2, q3, q4, -⟩ := Cond.selects_spec (kE 4 _ rfl)
    cases Option.some.inj (q1.symm.trans hfound)
    cases Option.some.inj (q2.symm.trans (State.methodFound?_of_named Y.fill (by decide)))
    cases Option.some.inj (q3.symm.trans Y.fill)
    rw [Launch.admits_selectMethod X.admits]
    exact q4
  obtain ⟨z0, hz0, hiss⟩ := Y.statics
  obtain ⟨u0, hu0⟩ := Cond.staticRefV Y.unassigned L.unassignedStatic L.statics hz0 hiss (kE 9 _ rfl)
  obtain ⟨sen, hsen⟩ := Cond.staticRefV Y.sentinel L.sentinelStatic L.statics hz0 hiss (kE 10 _ rfl)
  obtain ⟨cb, ib, fB, hb1, hb2, hb3, hsB, -, hnB, htB, hffB⟩ := Cond.ownField (t := .object "java/lang/Object") Y.found L.cls (by decide +kernel) (kE 11 _ rfl) (kE 12 _ rfl) e.platform hpl
  obtain ⟨z1, hz1, hez, -, hkeep⟩ := X.same.2.2.2.2.2 T.aS z0 hz0
  have hz1' : W.heap[T.aS]? = some z1 := hz1
  have hno : ∀ i, (⟨T.aS, i⟩ : Loc) ∉ locs := fun i hm => by
    have := hlocs _ hm z0 hz0
    rw [hiss] at this
    cases this
  have hunk : z1.vm ≠ .unknown := by
    rw [hez]
    intro hu
    rw [show z0.vm = .unknown from hu] at hiss
    cases hiss
  have hne : T.aS ≠ a := Nat.ne_of_lt (Nat.lt_of_lt_of_le (Array.getElem?_eq_some_iff.mp hz0).1 hnew)
  obtain ⟨iM, hffM⟩ := Y.msg
  obtain ⟨tyC, dC, hdC, hdnC⟩ := Cond.laysAt hfound hk Y.cause (kE 5 _ rfl)
  obtain ⟨tyS, dS, hdS, hdnS⟩ := Cond.laysAt hfound hk Y.stack (kE 6 _ rfl)
  obtain ⟨tyP, dP, hdP, hdnP⟩ := Cond.laysAt hfound hk Y.supp (kE 7 _ rfl)
  obtain ⟨tyM, dM, hdM, hdnM⟩ := Cond.laysAt hfound hk hffM (kE 8 _ rfl)
  obtain ⟨tyB, dB, hdB, hdnB⟩ := Cond.laysAt hfound hk hffB (kE 13 _ rfl)
  have bC := Cond.laysApart hdB hdC hdnB hdnC (by rw [hnB, Y.causeName]; decide)
  have bS := Cond.laysApart hdB hdS hdnB hdnS (by rw [hnB, Y.stackName]; decide)
  have bP := Cond.laysApart hdB hdP hdnB hdnP (by rw [hnB, Y.suppName]; decide)
  have hskip : SkipFacts T e.platform s (fun u => u) u0 ((preparedCellV T.toThrowableT (freshCell P1.m.cls kX) a u0 sen).withEntry W.cur) :=
    ⟨{ ci198 := cb, i198 := ib, fBack := fB }, ⟨hb1, hb2, hb3, hsB⟩, by
      have := fresh_default (c := P1.m.cls) tyB
      rw [htB] at this
      simpa [preparedCellV, Cell.setSlot, Cell.withEntry, Array.getElem?_setIfInBounds, bC, bS, bP, bC.symm, bS.symm, bP.symm, defaultValue] using this, fun _ _ => rfl⟩
  obtain ⟨tm, methC, cdC, kC, vm1, hnC, -, -, -, -, -, -, -, hW1, st1⟩ := Steps.initColdS (tb := p.tables) (e := e) (below := below) (s := s) (U := W) X.here hexec X.warmed hpl hown (t := Bundle.initS tx_X) rfl rfl ⟨by decide, by decide⟩ (kE 0 _ rfl) (k3 (.instanceMethod (Bundle.initS tx_X)) (by simp [Bundle.passSAtoms])) (bytes := tx_b) (maxL := 2) (k3 (.code (Bundle.initS tx_X) tx_b 2 none) (by simp [Bundle.passSAtoms]))
    (f := g) hg (a := a) (msg := msg) (rest := .ref a :: rest) hstack hd6
  cases Option.some.inj (hnC.symm.trans hP1m)
  have X1 := X.noted hW1
  obtain ⟨vm2, X2, st2⟩ := X1.ctorMessageOffV hexec (g := { g with stack := .ref a :: rest }) hg hsize T L Z LZ M LM (P1 :: P2 :: Ps)
    (fun P hP => by
      rcases List.mem_cons.mp hP with rfl | hP
      · exact L1
      · rcases List.mem_cons.mp hP with rfl | hP
        · exact L2
        · exact hL P hP) ⟨hp12, hlink2, hlink⟩ (u0 := u0) (sen := sen) (self := a) hmsg (cell := freshCell P1.m.cls kX) (cellS := z1)
    hcell (fun _ => by simp) (by simp) rfl rfl hsel0 hselF hz1' hne hunk (by rw [hkeep _ (hno _)]; exact hu0) (by rw [hkeep _ (hno _)]; exact hsen)
    (Takes.of_laid hk hord tyC (by rw [Y.causeType]; rfl)) (Takes.of_laid hk hord tyS (by rw [Y.stackType]; exact fits_refV_array _ u0)) (Takes.of_laid hk hord tyP (by rw [Y.suppType]; exact fits_refV_object _ sen))
    (Takes.of_laid hk hord tyM (by rw [Y.msgType]; exact fits_refV_object _ ⟨msg, hmsg⟩)) Y.objLocals hskip htr [] hd6
    (by simp only [List.length_cons, hlen, List.length_nil]; omega) (by simp only [List.length_cons, hlen, List.length_nil]; exact hRl)
  obtain ⟨hwalk, hrun, hended, hWU, hsame⟩ := X2.athrowLeaves hexec (g := { g with stack := .ref a :: rest, pc := g.pc + 3 }) hg hlocked hentered hout (a := a) (rest := rest) rfl hd9
  have hlt : a < ((W.setVm vm1).setVm vm2).heap.size := (Array.getElem?_eq_some_iff.mp hcell).1
  have hU := heapAt_setCell_self (s := (W.setVm vm1).setVm vm2) (plainBareV T.toThrowableT (freshCell P1.m.cls kX) a u0 sen msg) hlt
  refine ⟨_, st1 _ (fun acts => ?_), hrun, hended, hWU, hsame.weaken (fun y hy hlt' => ?_) (Nat.le_refl _) (Nat.le_refl _), _, hU, rfl, hfound⟩
  · rw [doInvoke_state]
    exact st2 _ hwalk
  · rcases List.mem_append.mp hy with h1 | h1
    · exact h1
    · exfalso
      have hb : y.base = a := by
        simp only [List.mem_cons, List.not_mem_nil, or_false] at h1
        rcases h1 with rfl | rfl | rfl | rfl | rfl <;> rfl
      rw [hb] at hlt'
      exact Nat.not_lt.mpr hnew hlt'
end TXC

/-! new NoSuchElementException(text) and its throw. Its constructor hands on by entry 13; the next two by 7. -/
def tx_X : String := "java/util/NoSuchElementException"
def tx_Y : String := "java/lang/RuntimeException"
def tx_b : ByteArray := ⟨#[42, 43, 183, 0, 13, 177]⟩
/-- the fields of a throwable that its making touches -/
def tx_F : List (String × String) := [("cause", "Ljava/lang/Throwable;"), ("stackTrace", Bundle.steD), ("suppressedExceptions", Bundle.listD), ("detailMessage", "Ljava/lang/String;"), ("backtrace", "Ljava/lang/Object;")]
/-- the two statics that it reads -/
def tx_S : List (String × String) := [("UNASSIGNED_STACK", Bundle.steD), ("SUPPRESSED_SENTINEL", Bundle.listD)]
def tx_M : List MethodName := [Bundle.tFill0, Bundle.tFill]
def tx_E (own : String) (ic : Nat) : List Cond :=
  Cond.methodLink own ic (Bundle.initS tx_X) :: Cond.instantiable tx_X 6 :: Cond.castable tx_X tx_X :: Cond.fieldLink Bundle.tN 198 Bundle.tN "backtrace" "Ljava/lang/Object;" :: Cond.lays Bundle.tN Bundle.tN "backtrace" "Ljava/lang/Object;" ::
    (tx_M.map (fun y => Cond.selects tx_X y y) ++ (tx_F.map (fun q => Cond.lays tx_X Bundle.tN q.1 q.2) ++ tx_S.map (fun q => Cond.isRef (.static Bundle.tN q.1 q.2))))
def tx_L (own : String) (ic : Nat) : List Cond := Bundle.throwableAtoms ++ (Bundle.throwableSAtoms ++ (Bundle.passSAtoms tx_X tx_Y 13 tx_b ++ (Bundle.chainSAtoms tx_Y ["java/lang/Exception"] ++ tx_E own ic)))
/-- all words of a list hold at the start -/
def tx_H (args : Array Value) (s : State) (ws : List Cond) : Prop := ∀ w ∈ ws, w.before args s = true
theorem tx_H.app {args : Array Value} {s : State} {a b : List Cond} (h : tx_H args s (a ++ b)) : tx_H args s a ∧ tx_H args s b := ⟨fun w hw => h w (List.mem_append.mpr (Or.inl hw)), fun w hw => h w (List.mem_append.mpr (Or.inr hw))⟩
theorem tx_H.nth {args : Array Value} {s : State} {a : List Cond} (h : tx_H args s a) (i : Nat) {w : Cond} (hw : a[i]? = some w) : w.before args s = true := h w (List.mem_of_getElem? hw)
/-- a field's place in an object of the class -/
def tx_at (s : State) (cX : ClassId) (kX : Class) (f : Field) : Prop := kX.instanceTypes[f.slot]? = some f.type ∧ ∃ d, Jmm.declares? s.vm f.slot (cX + 1) cX = some d ∧ d.2.name = f.name
theorem tx_at.ne {s : State} {cX : ClassId} {kX : Class} {f g : Field} {n k : String} (a : tx_at s cX kX f) (b : tx_at s cX kX g) (hf : f.name = n) (hg : g.name = k) (h : n ≠ k) : f.slot ≠ g.slot := by
  obtain ⟨_, _, a1, a2⟩ := a
  obtain ⟨_, _, b1, b2⟩ := b
  exact Cond.laysApart a1 b1 a2 b2 (hf ▸ hg ▸ h)
section TXC
variable {p : Program} {l : Launch} {e : Env} {R : Room} {s : State} {m : MethodId} {args : Array Value} {below : List Frame} {meth : Method} {c : Code} {W : State} {cells slots : Nat}
variable {own : String} {ic : Nat} {cX : ClassId} {kX : Class}
theorem tx_sel {y : MethodName} {k : MethodId} (ha : l.admits e) (hE : tx_H args s (tx_E own ic)) (hX : s.vm.findClass tx_X = some cX) (hy : y ∈ tx_M) (hk : s.methodNamed? y = some k) : selectMethod e.platform s.vm cX k = .method k := by
  have w : (Cond.selects tx_X y y).before args s = true := hE _ (by simp only [tx_E, List.mem_cons, List.mem_append, List.mem_map]; exact Or.inr (Or.inr (Or.inr (Or.inr (Or.inr (Or.inl ⟨y, hy, rfl⟩))))))
  have plain : y.cls ≠ "java/lang/invoke/MethodHandle" ∧ y.cls ≠ "java/lang/invoke/VarHandle" := (show ∀ y ∈ tx_M, y.cls ≠ "java/lang/invoke/MethodHandle" ∧ y.cls ≠ "java/lang/invoke/VarHandle" by decide) y hy
  obtain ⟨_, _, _, w1, w2, w3, w4, _⟩ := Cond.selects_spec w
  rw [hX, Option.some.injEq] at w1
  rw [State.methodFound?_of_named hk plain, Option.some.injEq] at w2
  rw [hk, Option.some.injEq] at w3
  rw [Launch.admits_selectMethod ha, w1, w2, w4, ← w3, w2]
theorem tx_fld {q : String × String} {D : ClassId} {K : Class} {i : Nat} {f : Field} (hE : tx_H args s (tx_E own ic)) (hX : s.vm.findClass tx_X = some cX) (hk : s.vm.classes[cX]? = some kX) (hq : q ∈ tx_F) (hf : s.fieldFound? Bundle.tN q.1 q.2 = some (D, K, i, f)) : tx_at s cX kX f :=
  Cond.laysAt hX hk hf (hE _ (by simp only [tx_E, List.mem_cons, List.mem_append, List.mem_map]; exact Or.inr (Or.inr (Or.inr (Or.inr (Or.inr (Or.inr (Or.inl ⟨q, hq, rfl⟩))))))))
/-- the three constructors below Throwable's, in a row -/
theorem tx_row {pl : Platform} {top : MethodId} (hpl : pl.magicAccessors = ({} : Platform).magicAccessors) (htop : s.methodNamed? (Bundle.initS Bundle.tN) = some top) (h1 : tx_H args s (Bundle.passSAtoms tx_X tx_Y 13 tx_b)) (h2 : tx_H args s (Bundle.chainSAtoms tx_Y ["java/lang/Exception"])) :
    ∃ Ps : List PassC, Ps.length = 3 ∧ (∀ P ∈ Ps, P.LinksS pl s) ∧ PassesOn top (Ps.map (·.toPassT)) ∧ s.methodNamed? (Bundle.initS tx_X) = some (firstOf top (Ps.map (·.toPassT))) := by
  obtain ⟨A, hA, nA, uA⟩ := PassC.ofS_atoms hpl (by decide +kernel) (by decide) (by decide +kernel) (by decide +kernel) (by decide +kernel) (by decide +kernel) h1
  obtain ⟨B, Cs, n, hB, hC, nB, uB, on⟩ := Bundle.chainS hpl htop ["java/lang/Exception"] tx_Y (by decide +kernel) (by decide +kernel) h2
  rw [nB, Option.some.injEq] at uA
  exact ⟨A :: B :: Cs, by rw [List.length_cons, List.length_cons, n]; rfl, List.forall_mem_cons.mpr ⟨hA, List.forall_mem_cons.mpr ⟨hB, hC⟩⟩, ⟨uA.symm, uB, on⟩, nA⟩
/-- what the two statics hold now: references, as at the start -/
theorem tx_sta {T : ThrowableC} {Z : Init0T} (X : Stand p l e R s m args below meth c W [] cells slots) (L : T.Links e.platform s) (Y : Bundle.Ties T Z s) (hE : tx_H args s (tx_E own ic)) :
    ∃ (z : Cell) (u v : RefV), W.heap[T.aS]? = some z ∧ z.vm ≠ .unknown ∧ z.slots[T.fUnassigned.slot]? = some u.v ∧ z.slots[T.fSentinel.slot]? = some v.v ∧ T.aS < s.heap.size := by
  obtain ⟨b, hb, st⟩ := Y.statics
  obtain ⟨u, hu⟩ := Cond.staticRefV Y.unassigned L.unassignedStatic L.statics hb st (hE.nth 12 rfl)
  obtain ⟨v, hv⟩ := Cond.staticRefV Y.sentinel L.sentinelStatic L.statics hb st (hE.nth 13 rfl)
  obtain ⟨z, hz, same, _, kept⟩ := X.same.2.2.2.2.2 _ _ hb
  refine ⟨z, u, v, hz, fun bad => ?_, (kept _ List.not_mem_nil).trans hu, (kept _ List.not_mem_nil).trans hv, (Array.getElem?_eq_some_iff.mp hb).1⟩
  rw [(congrArg Cell.vm same).symm.trans bad] at st
  exact Bool.noConfusion st
/-- its trace is not asked for: the field for it is still null -/
theorem tx_bk {T : ThrowableC} {Z : Init0T} {a : Addr} {u v : RefV} {t : ThreadId} (hpl : e.platform.magicAccessors = ({} : Platform).magicAccessors) (L : T.Links e.platform s) (Y : Bundle.Ties T Z s) (hE : tx_H args s (tx_E own ic))
    (hX : s.vm.findClass tx_X = some cX) (hk : s.vm.classes[cX]? = some kX) : SkipFacts T e.platform s (fun z => z) u ((preparedCellV T.toThrowableT (freshCell cX kX) a u v).withEntry t) := by
  obtain ⟨ci, i, f, b1, b2, b3, b4, _, name, type, hf⟩ := Cond.ownField (t := .object "java/lang/Object") Y.found L.cls (by decide +kernel) (hE.nth 3 rfl) (hE.nth 4 rfl) e.platform hpl
  have at' : ∀ {q : String × String} {D : ClassId} {K : Class} {i : Nat} {f : Field}, q ∈ tx_F → s.fieldFound? Bundle.tN q.1 q.2 = some (D, K, i, f) → tx_at s cX kX f := fun hq hf => tx_fld hE hX hk hq hf
  have mine := at' (q := ("backtrace", "Ljava/lang/Object;")) (by decide) hf
  have n1 := mine.ne (at' (q := ("cause", "Ljava/lang/Throwable;")) (by decide) Y.cause) name Y.causeName (by decide)
  have n2 := mine.ne (at' (q := ("stackTrace", Bundle.steD)) (by decide) Y.stack) name Y.stackName (by decide)
  have n3 := mine.ne (at' (q := ("suppressedExceptions", Bundle.listD)) (by decide) Y.supp) name Y.suppName (by decide)
  refine ⟨⟨ci, i, f⟩, ⟨b1, b2, b3, b4⟩, ?_, fun _ _ => rfl⟩
  have zero := (fresh_default (c := cX) mine.1).trans (by rw [type, defaultValue])
  simpa [preparedCellV, Cell.withEntry, Cell.setSlot, Array.getElem?_setIfInBounds, n1.symm, n2.symm, n3.symm] using zero
/-- from the call of its constructor to the throw out of the method -/
theorem tx_ctor {pc sa a : Nat} {ls : Array Slot} {rest : List Value} (X : Stand p l e R s m args below meth c W [] cells slots) (hexec : p.tables.exec = Jvm.exec) (htr : e.platform.stackTraces = false) (hown : s.vm.findClass own = some m.cls)
    (h : tx_H args s (tx_L own ic)) (hX : s.vm.findClass tx_X = some cX) (hk : s.vm.classes[cX]? = some kX) (made : W.heap[a]? = some (freshCell cX kX)) (late : s.heap.size ≤ a) (hls : ls.size = c.maxLocals)
    (d1 : decode c.code pc = .ok (.invokespecial ic, 3)) (d2 : decode c.code (pc + 3) = .ok (.athrow, 1)) (hout : ∀ x ∈ c.exceptionTable.toList, covers x (pc + 3) = false) (hF : 5 < R.frames) (hR : (rest.map (·.category)).sum + 82 ≤ R.locals) (hlocks : meth.locks = false) :
    ∃ (U : State) (ce : Cell), Steps p.tables e below (W.setTop (F0 m pc ls (.ref sa :: .ref a :: .ref a :: rest))) U ∧ (U.status = .running ∧ Ended U below (.threw a)) ∧ s.WarmedH U.vm ∧ s.sameButNew ({ U with vm := s.vm } : State) [] cells slots ∧
      U.heap[a]? = some ce ∧ ce.vm = .none ∧ s.vm.findClass tx_X = some ce.cls := by
  have pf := X.admits.platform
  have hpl : e.platform.magicAccessors = ({} : Platform).magicAccessors := by rw [pf]
  obtain ⟨h1, h⟩ := h.app
  obtain ⟨h2, h⟩ := h.app
  obtain ⟨h3, h⟩ := h.app
  obtain ⟨h4, hE⟩ := h.app
  obtain ⟨T, Z0, L, _, Y⟩ := ThrowableC.of_atoms (pl := e.platform) (by rw [pf]) (by rw [pf]) hpl h1
  obtain ⟨Z, M, LZ, LM, top⟩ := Init0T.ofS_atoms hpl L Y h2
  obtain ⟨Ps, n, hPs, on, first⟩ := tx_row hpl top h3 h4
  have ord : kX.kind = .ordinary := by
    obtain ⟨i, k, i1, i2, i3, _⟩ := Cond.instantiable_spec (hE.nth 1 rfl)
    rw [hX, Option.some.injEq] at i1
    rw [← i1, hk, Option.some.injEq] at i2
    rw [i2]
    exact i3
  have take : ∀ {q : String × String} {D : ClassId} {K : Class} {i : Nat} {f : Field} {v : Value}, q ∈ tx_F → s.fieldFound? Bundle.tN q.1 q.2 = some (D, K, i, f) → fits f.type v = true → Takes s (freshCell cX kX) f v := fun hq hf hv => Takes.of_laid hk ord (tx_fld hE hX hk hq hf).1 hv
  obtain ⟨iM, fM⟩ := Y.msg
  obtain ⟨z, u, v, z1, z2, z3, z4, z5⟩ := tx_sta X L Y hE
  obtain ⟨tm, _, _, _, vm1, tm1, _, _, _, _, _, _, _, warm, go1⟩ := Steps.initColdS (tb := p.tables) (e := e) (below := below) X.here hexec X.warmed hpl hown (t := Bundle.initS tx_X) rfl rfl (by decide) (hE.nth 0 rfl) (h3.nth 0 rfl) (h3.nth 1 rfl)
    (f := F0 m pc ls (.ref sa :: .ref a :: .ref a :: rest)) rfl rfl d1
  rw [first, Option.some.injEq] at tm1
  subst tm1
  have wide : 2 * (F0 m pc ls (.ref a :: rest)).monitorRoom + ((F0 m pc ls (.ref a :: rest)).stack.map fun v => v.category).sum + (13 * Ps.length + 42) ≤ R.locals := by
    rw [n]
    show 2 * 0 + (1 + (rest.map (·.category)).sum) + 81 ≤ R.locals
    omega
  obtain ⟨vm2, X2, go2⟩ := (X.noted warm).ctorMessageOffV hexec (g := F0 m pc ls (.ref a :: rest)) rfl hls T L Z LZ M LM Ps hPs on (u0 := u) (sen := v) (msg := .ref sa) rfl made (fun _ => VmData.noConfusion) VmData.noConfusion rfl rfl
    (tx_sel X.admits hE hX (by decide) Y.fill0) (tx_sel X.admits hE hX (by decide) Y.fill) z1 (Nat.ne_of_lt (Nat.lt_of_lt_of_le z5 late)) z2 z3 z4
    (take (q := ("cause", "Ljava/lang/Throwable;")) (by decide) Y.cause (by rw [Y.causeType]; rfl)) (take (q := ("stackTrace", Bundle.steD)) (by decide) Y.stack (by rw [Y.stackType]; exact fits_refV_array _ u))
    (take (q := ("suppressedExceptions", Bundle.listD)) (by decide) Y.supp (by rw [Y.suppType]; exact fits_refV_object _ v)) (take (q := ("detailMessage", "Ljava/lang/String;")) (by decide) fM (by rw [Y.msgType]; rfl))
    Y.objLocals (tx_bk hpl L Y hE hX hk) htr [] d1 (by rw [n]; exact hF) wide
  obtain ⟨o1, o2, o3, o4, o5⟩ := X2.athrowLeaves hexec (g := F0 m (pc + 3) ls (.ref a :: rest)) rfl rfl rfl hout rfl d2 hlocks
  have lt : a < ((W.setVm vm1).setVm vm2).heap.size := (Array.getElem?_eq_some_iff.mp made).1
  refine ⟨_, _, go1 _ fun acts => ?_, ⟨o2, o3⟩, o4, o5.weaken (fun y hy old => ?_) (Nat.le_refl _) (Nat.le_refl _), heapAt_setCell_self _ lt, rfl, hX⟩
  · exact (doInvoke_state e _ acts _ _).symm ▸ go2 _ o1
  · have all : ∀ y ∈ ([] : List Loc) ++ [⟨a, T.fCause.slot⟩, ⟨a, T.fStack.slot⟩, ⟨a, T.fSupp.slot⟩, ⟨a, T.fStack.slot⟩, ⟨a, T.fMsg.slot⟩], y.base = a := by simp
    exact absurd (all y hy ▸ old) (Nat.not_lt.mpr late)
end TXC

/-! a throw under a table of one row that names its class; the class need not be linked yet -/
section CTC
variable {tb : Tables} {e : Env} {S : State} {f : JFrame} {q : Addr} {ce : Cell} {k : ClassId} {x : ExceptionTableEntry}
/-- the machine's whole step: from the note to the handler, the row's class noted -/
theorem vk_seek {me : Method} {cd : Code} {r : List Frame} (hfr : S.frames = .throwing q :: .java f :: r) (hm : S.vm.method? f.method = some me) (hc : me.code = some cd) (ht : cd.exceptionTable.toList = [x])
    (lo : x.startPc ≤ f.pc) (hi : f.pc < x.endPc) (named : ¬ x.catchType = 0) (lk : S.vm.ClassLinks e.platform f.method.cls x.catchType k)
    (hq : S.heap[q]? = some ce) (hn : ce.vm = .none) (kx : ∃ K, S.vm.classes[k]? = some K) (kq : ∃ K, S.vm.classes[ce.cls]? = some K) (sub : S.vm.assignable ce.cls k = true) :
    (stepThread tb e S).1 = (S.setVm (S.vm.noted f.method.cls x.catchType (.cls k))).setFrames (.java { f with pc := x.handlerPc, stack := [.ref q] } :: r) := by
  have al := (Vm.Alike.refl S.vm).noted f.method.cls x.catchType (.cls k)
  have there : ∀ {i : ClassId}, (∃ K, S.vm.classes[i]? = some K) → ∃ K, (S.vm.noted f.method.cls x.catchType (.cls k)).classes[i]? = some K := fun ⟨_, h⟩ => (al.2.2 _ _ h).imp fun _ h => h.1
  obtain ⟨K, hK⟩ := there kx
  obtain ⟨J, hJ⟩ := there kq
  have sub2 : (S.vm.noted f.method.cls x.catchType (.cls k)).assignable ce.cls k = true := (al.assignable ce.cls k).trans sub
  obtain ⟨w1, w2⟩ := (resolveClass_links e.toSetting lk).op (op := .resolveClass f.method.cls x.catchType) rfl
  rw [stepThread_throwing hfr, stepThrowing, searchFrame, vmDo]
  split <;> rename_i hgo <;>
    obtain ⟨_, h1, -⟩ := Sem.eq_ok_of (a := Handler.found x.handlerPc) (s' := S.setVm (S.vm.noted f.method.cls x.catchType (.cls k))) (acts' := []) hgo
      (by simp [findHandler, findHandler.go, hm, hc, ht, lo, hi, named, w1, w2, hq, hn, hK, hJ, sub2, VmOp.dirties, VmOp.acts]) <;>
    cases h1
  rfl
end CTC
section CTW
variable {p : Program} {l : Launch} {e : Env} {R : Room} {s : State} {m : MethodId} {args : Array Value} {below : List Frame} {meth : Method} {c : Code} {H : Heap} {locs : List Loc} {cells slots pc : Nat} {Q : State → Prop} {ls : Array Slot} {rest : List Value}
/-- caught by the one row of this method's table -/
theorem vk_catch {own name E : String} {ce : Cell} {q : Addr} {x : ExceptionTableEntry} (hown : s.vm.findClass own = some m.cls) (htab : c.exceptionTable.toList = [x]) (hx : covers x pc = true) (h0 : x.catchType ≠ 0)
    (hlink : (Cond.classLink own x.catchType name).before args s = true) (hcast : (Cond.castable E name).before args s = true) (hcell : H[q]? = some ce) (hv : ce.vm = .none) (hcl : s.vm.findClass E = some ce.cls)
    (kk : W p l e R s m args below meth c H locs cells slots Q (F0 m x.handlerPc ls [.ref q])) : vx_W p l e R s m args below meth c H locs cells slots Q (F0 m pc ls rest) q := by
  intro T hT X
  have al := X.warmed.alike
  obtain ⟨k, hk, lk⟩ := Cond.classLink_spec hown hlink e.platform (by rw [X.admits.platform])
  obtain ⟨i, j, hi, hj, sub⟩ := Cond.castable_spec hcast
  rw [hcl] at hi
  rw [hk] at hj
  injection hi with hi
  injection hj with hj
  rw [← hi, ← hj] at sub
  have there : ∀ {n : String} {i : ClassId}, s.vm.findClass n = some i → ∃ K, T.vm.classes[i]? = some K := fun h => (Vm.classAt_of_findClass h).elim fun _ h => (al.2.2 _ _ h).imp fun _ h => h.1
  obtain ⟨g, below', hfr⟩ : ∃ g r, T.frames = .java g :: r := (Option.isSome_iff_exists.mp X.here.top).imp fun _ h => State.topJava?_eq_some.mp h
  have hS : ((T.setTop (F0 m pc ls rest)).pushFrame (.throwing q)).frames = .throwing q :: .java (F0 m pc ls rest) :: below' := (frames_entered X.here.top _).trans (by rw [hfr]; rfl)
  obtain ⟨lo, hi⟩ : x.startPc ≤ pc ∧ pc < x.endPc := by simpa [covers] using hx
  have one := vk_seek (tb := p.tables) (e := e) hS X.method' X.code htab lo hi h0 (X.warmed.classLinks lk) (show T.heap[q]? = some ce by rw [hT]; exact hcell) hv (there hk) (there hcl) (show T.vm.assignable _ _ = true by rw [al.assignable]; exact sub)
  obtain ⟨D, _, _, _, hD, _, _, _, _, _, _, hop⟩ := lk.here
  obtain ⟨t, go, hQ⟩ := kk (T.setVm (T.vm.noted m.cls x.catchType (.cls k))) hT (X.noted (X.warmed.noted hD hop (State.rightAt_cls lk)))
  obtain ⟨on, inn⟩ := At.throwing (g := F0 m pc ls rest) X.here q
  refine ⟨t, Steps.head on inn ((one.trans ?_).symm ▸ go), hQ⟩
  rw [State.setTop_of_frames _ (show (T.setVm (T.vm.noted m.cls x.catchType (.cls k))).frames = .java g :: below' from hfr), State.pushFrame, State.setTop_of_frames _ hfr, State.setFrames_setFrames]
  exact State.setFrames_setFrames (T.setVm (T.vm.noted m.cls x.catchType (.cls k))) _ _
end CTW

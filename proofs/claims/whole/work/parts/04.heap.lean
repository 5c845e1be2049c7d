/-! fields, arrays, statics, calls, ends over Rn -/
def rx_pf (hp : rx_Hp) (b j : Nat) (x : Int32) : rx_Hp := (fun k i => if k = b then (if i = j then x else hp.1 k i) else hp.1 k i, hp.2.1, hp.2.2)
def rx_pa (hp : rx_Hp) (b i : Nat) (x : Int32) : rx_Hp := (hp.1, fun k => if k = b then upd (hp.2.1 k) i x else hp.2.1 k, hp.2.2)
def rx_pl (hp : rx_Hp) (r : Nat) : rx_Hp := (hp.1, hp.2.1, r)
/-- a field's place: class number, slot, and what its link is -/
def rx_F (own : String) (idx ci j : Nat) : Prop := ∃ r : vw_C, vwCl[ci]? = some r ∧ j < r.2.2 ∧ Cond.fieldLink own idx (r.2.1 j).1 (r.2.1 j).2.1 (r.2.1 j).2.2.1 ∈ rx_gw ∧ (∀ w ∈ u_ws r.1 r.2.1 r.2.2, w ∈ rx_gw)
def rx_FP (own : String) (idx ci j : Nat) (ty : FieldType) : Prop := ∃ (r : vw_C) (ty0 : Nat → FieldType), vwCl[ci]? = some r ∧ j < r.2.2 ∧ Cond.fieldLink own idx (r.2.1 j).1 (r.2.1 j).2.1 (r.2.1 j).2.2.1 ∈ rx_gw ∧ (∀ w ∈ u_ws r.1 r.2.1 r.2.2, w ∈ rx_gw) ∧ (∀ k, k < r.2.2 → parseFieldDescriptor (r.2.1 k).2.2.1 = some (ty0 k)) ∧ (∀ a, a < r.2.2 → ∀ b, b < r.2.2 → a ≠ b → (r.2.1 a).2.1 ≠ (r.2.1 b).2.1) ∧ (r.2.1 j).2.2.2 = false ∧ parseFieldDescriptor (r.2.1 j).2.2.1 = some ty
theorem rx_fs_set {Ω : rx_Om} {ad : Nat → Nat} {hp : rx_Hp} {b j : Nat} {x : Int32} {sh : List Bool} (hj : sh[j]? = some false) : rx_fs Ω ad (rx_pf hp b j x) b sh = (rx_fs Ω ad hp b sh).set j (.int x) := by
  apply List.ext_getElem?
  intro i
  by_cases hi : i < sh.length
  · have hsi : sh[i]? = some sh[i] := List.getElem?_eq_getElem hi
    rw [rx_fs_get hsi]
    by_cases hij : i = j
    · subst hij
      rw [hj] at hsi
      have hb : sh[i] = false := (Option.some.inj hsi).symm
      rw [List.getElem?_set_self (by simp [rx_fs, hi]), hb]
      simp [rx_fv, rx_pf]
    · rw [List.getElem?_set_ne (Ne.symm hij), rx_fs_get hsi]
      cases sh[i] <;> simp [rx_fv, rx_pf, hij]
  · rw [List.getElem?_eq_none (by simp [rx_fs]; omega), List.getElem?_eq_none (by simp [rx_fs]; omega)]
theorem rx_fs_ne {Ω : rx_Om} {ad : Nat → Nat} {hp : rx_Hp} {b j k : Nat} {x : Int32} {sh : List Bool} (hk : k ≠ b) : rx_fs Ω ad (rx_pf hp b j x) k sh = rx_fs Ω ad hp k sh := by
  apply List.ext_getElem?
  intro i
  by_cases hi : i < sh.length
  · have hsi : sh[i]? = some sh[i] := List.getElem?_eq_getElem hi
    rw [rx_fs_get hsi, rx_fs_get hsi]
    cases sh[i] <;> simp [rx_fv, rx_pf, hk]
  · rw [List.getElem?_eq_none (by simp [rx_fs]; omega), List.getElem?_eq_none (by simp [rx_fs]; omega)]
theorem rx_cell_pf {Ω : rx_Om} {G : rx_Gh} {hp : rx_Hp} {b j k : Nat} {x : Int32} (hk : k ≠ b) : rx_cell Ω G (rx_pf hp b j x) k = rx_cell Ω G hp k := by
  unfold rx_cell
  cases Ω.2.1 k with
  | inl ci => simp only [rx_fs_ne hk]
  | inr u =>
    obtain ⟨t, n⟩ := u
    cases t <;> rfl
theorem rx_cell_pa {Ω : rx_Om} {G : rx_Gh} {hp : rx_Hp} {b i k : Nat} {x : Int32} (hk : k ≠ b) : rx_cell Ω G (rx_pa hp b i x) k = rx_cell Ω G hp k := by
  unfold rx_cell
  cases Ω.2.1 k with
  | inl ci => rfl
  | inr u =>
    obtain ⟨t, n⟩ := u
    cases t with
    | zero => simp [rx_pa, hk]
    | succ t => rfl
def rx_drop : List Bool → List (Option Value) → List (Option Value)
  | true :: ms, _ :: vs => none :: rx_drop ms vs
  | false :: ms, v :: vs => v :: rx_drop ms vs
  | _, vs => vs
theorem rx_drop_get : ∀ (ms : List Bool) (lv : List (Option Value)) (k : Nat) (v : Value), (rx_drop ms lv)[k]? = some (some v) → lv[k]? = some (some v)
  | [], lv, k, v, h => by simpa [rx_drop] using h
  | m :: ms, [], k, v, h => by cases m <;> simp [rx_drop] at h
  | true :: ms, w :: vs, k, v, h => by
    cases k with
    | zero => simp [rx_drop] at h
    | succ k => simpa using rx_drop_get ms vs k v (by simpa [rx_drop] using h)
  | false :: ms, w :: vs, k, v, h => by
    cases k with
    | zero => simpa [rx_drop] using h
    | succ k => simpa using rx_drop_get ms vs k v (by simpa [rx_drop] using h)
section RXH
variable {Ω : rx_Om} {G : rx_Gh} {d : Nat} {q : rx_Mi} {pc : Nat} {lv : List (Option Value)} {st : List Value} {hp : rx_Hp} {Q : rx_Po}
theorem rx_fgt (ms : List Bool) (h : Rn Ω G d q pc (rx_drop ms lv) st hp Q) : Rn Ω G d q pc lv st hp Q := by
  intro p e s m args below meth c H locs ls C hl hP hS
  refine h p e s m args below meth c H locs ls C ⟨hl.1, hl.2.1, fun z hz => hl.2.2 z ?_⟩ hP hS
  obtain ⟨k, v, hk, rfl⟩ := rx_lv_mem.mp hz
  exact rx_lv_mem.mpr ⟨k, v, rx_drop_get ms lv k v hk, rfl⟩
theorem r_getI {b ci j idx : Nat} (hd : decode q.2.1 pc = .ok (.getfield idx, 3)) (hF : rx_F q.1.cls idx ci j) (hb : b < Ω.1) (hk : Ω.2.1 b = .inl ci) (hs : (rx_sh ci)[j]? = some false) {v : Int32} (hv : hp.1 b j = v) (k : Rn Ω G d q (pc + 3) lv (.int v :: st) hp Q) : Rn Ω G d q pc lv (.ref b :: st) hp Q := by
  intro p e s m args below meth c H locs ls C hl hP hS
  obtain ⟨⟨cn, cT, cN⟩, h1, h2, h3, h4⟩ := hF
  have hc : rx_cell Ω G hp b = .inr (ci, rx_fs Ω G.2.2.1 hp b (rx_sh ci)) := by simp only [rx_cell, hk]
  exact va_get C.1 C.2.1 C.2.2.2.2.2.1 h4 C.2.2.2.2.1 C.2.2.2.2.2.2.2.2.1 hP b (by rw [rx_wd_get hb, hc]) h1 j h2 (C.2.2.2.2.2.1 _ h3) (fun _ h9 => h9) ((rx_fs_get hs).trans (by simp [rx_fv, hv, rx_tr])) hd (k p e s m args below meth c H locs ls C hl hP hS)
theorem r_getR {b ci j idx r : Nat} (hd : decode q.2.1 pc = .ok (.getfield idx, 3)) (hF : rx_F q.1.cls idx ci j) (hb : b < Ω.1) (hk : Ω.2.1 b = .inl ci) (hs : (rx_sh ci)[j]? = some true) (hr : Ω.2.2 hp.2.2 b j = some r) (k : Rn Ω G d q (pc + 3) lv (.ref r :: st) hp Q) : Rn Ω G d q pc lv (.ref b :: st) hp Q := by
  intro p e s m args below meth c H locs ls C hl hP hS
  obtain ⟨⟨cn, cT, cN⟩, h1, h2, h3, h4⟩ := hF
  have hc : rx_cell Ω G hp b = .inr (ci, rx_fs Ω G.2.2.1 hp b (rx_sh ci)) := by simp only [rx_cell, hk]
  have hv : (rx_fs Ω G.2.2.1 hp b (rx_sh ci))[j]? = some (.ref (G.2.2.1 r)) := by rw [rx_fs_get hs]; simp [rx_fv, hr, va_rf]
  exact va_get C.1 C.2.1 C.2.2.2.2.2.1 h4 C.2.2.2.2.1 C.2.2.2.2.2.2.2.2.1 hP b (by rw [rx_wd_get hb, hc]) h1 j h2 (C.2.2.2.2.2.1 _ h3) (fun _ h9 => h9) hv hd (k p e s m args below meth c H locs ls C hl hP hS)
theorem r_putI {b ci j idx : Nat} {x : Int32} {ty : FieldType} (hd : decode q.2.1 pc = .ok (.putfield idx, 3)) (hF : rx_FP q.1.cls idx ci j ty) (hn : narrow ty (.int x) = .int x ∧ fits ty (.int x) = true) (hb : b < Ω.1) (hk : Ω.2.1 b = .inl ci) (hs : (rx_sh ci)[j]? = some false) (k : Rn Ω G d q (pc + 3) lv st (rx_pf hp b j x) Q) : Rn Ω G d q pc lv (.int x :: .ref b :: st) hp Q := by
  intro p e s m args below meth c H locs ls C hl hP hS
  obtain ⟨⟨cn, cT, cN⟩, ty0, h1, h2, h3, h4, h5, h6, h7, h8⟩ := hF
  have hc : rx_cell Ω G hp b = .inr (ci, rx_fs Ω G.2.2.1 hp b (rx_sh ci)) := by simp only [rx_cell, hk]
  refine va_put C.1 C.2.1 C.2.2.2.2.2.1 h4 ty0 h5 h6 C.2.2.2.2.1 C.2.2.2.2.2.2.2.2.1 hP (rx_D C.2.2.2.2.2.2.2.1) hS b (by rw [rx_wd_get hb, hc]) h1 j h2 (C.2.2.2.2.2.1 _ h3) (fun _ h9 => h9) h7 h8 hn.1 hn.2 ?_ hd (fun H1 locs1 hP1 _ hS1 => k p e s m args below meth c H1 locs1 ls C hl ?_ hS1)
  · have := (List.getElem?_eq_some_iff.mp hs).1
    simpa [rx_fs] using this
  · rw [rx_wd_set (hp' := rx_pf hp b j x) (by simp only [rx_cell, hk]; rw [rx_fs_set hs]; rfl) (fun k hk' => rx_cell_pf hk')] at hP1
    exact hP1
theorem r_putR {b ci j idx r : Nat} {ty : FieldType} (hd : decode q.2.1 pc = .ok (.putfield idx, 3)) (hF : rx_FP q.1.cls idx ci j ty) (hn : ∀ v : Nat, narrow ty (.ref v) = .ref v ∧ fits ty (.ref v) = true) (hb : b < Ω.1) (hk : Ω.2.1 b = .inl ci) (hs : (rx_sh ci)[j]? = some true) (hr : Ω.2.2 r b j = some r) (ho : ∀ k i, ¬ (k = b ∧ i = j) → Ω.2.2 r k i = Ω.2.2 hp.2.2 k i) (k : Rn Ω G d q (pc + 3) lv st (rx_pl hp r) Q) : Rn Ω G d q pc lv (.ref r :: .ref b :: st) hp Q := by
  intro p e s m args below meth c H locs ls C hl hP hS
  obtain ⟨⟨cn, cT, cN⟩, ty0, h1, h2, h3, h4, h5, h6, h7, h8⟩ := hF
  have hc : rx_cell Ω G hp b = .inr (ci, rx_fs Ω G.2.2.1 hp b (rx_sh ci)) := by simp only [rx_cell, hk]
  refine va_put C.1 C.2.1 C.2.2.2.2.2.1 h4 ty0 h5 h6 C.2.2.2.2.1 C.2.2.2.2.2.2.2.2.1 hP (rx_D C.2.2.2.2.2.2.2.1) hS b (by rw [rx_wd_get hb, hc]) h1 j h2 (C.2.2.2.2.2.1 _ h3) (fun _ h9 => h9) h7 h8 (hn _).1 (hn _).2 ?_ hd (fun H1 locs1 hP1 _ hS1 => k p e s m args below meth c H1 locs1 ls C hl ?_ hS1)
  · have := (List.getElem?_eq_some_iff.mp hs).1
    simpa [rx_fs] using this
  · have e1 : rx_fs Ω G.2.2.1 (rx_pl hp r) b (rx_sh ci) = (rx_fs Ω G.2.2.1 hp b (rx_sh ci)).set j (.ref (G.2.2.1 r)) := by
      apply List.ext_getElem?
      intro i
      by_cases hi : i < (rx_sh ci).length
      · have hsi : (rx_sh ci)[i]? = some (rx_sh ci)[i] := List.getElem?_eq_getElem hi
        rw [rx_fs_get hsi]
        by_cases hij : i = j
        · subst hij
          have hb2 : (rx_sh ci)[i] = true := by rw [hs] at hsi; exact (Option.some.inj hsi).symm
          rw [List.getElem?_set_self (by simp [rx_fs, hi]), hb2]
          simp [rx_fv, rx_pl, hr, va_rf]
        · rw [List.getElem?_set_ne (Ne.symm hij), rx_fs_get hsi]
          cases (rx_sh ci)[i] with
          | true => simp [rx_fv, rx_pl, ho b i (fun h => hij h.2)]
          | false => rfl
      · rw [List.getElem?_eq_none (by simp [rx_fs]; omega), List.getElem?_eq_none (by simp [rx_fs]; omega)]
    have e2 : ∀ k, k ≠ b → rx_cell Ω G (rx_pl hp r) k = rx_cell Ω G hp k := by
      intro k hkb
      unfold rx_cell
      cases Ω.2.1 k with
      | inl ck =>
        have : rx_fs Ω G.2.2.1 (rx_pl hp r) k (rx_sh ck) = rx_fs Ω G.2.2.1 hp k (rx_sh ck) := by
          apply List.ext_getElem?
          intro i
          by_cases hi : i < (rx_sh ck).length
          · have hsi : (rx_sh ck)[i]? = some (rx_sh ck)[i] := List.getElem?_eq_getElem hi
            rw [rx_fs_get hsi, rx_fs_get hsi]
            cases (rx_sh ck)[i] with
            | true => simp [rx_fv, rx_pl, ho k i (fun h => hkb h.1)]
            | false => rfl
          · rw [List.getElem?_eq_none (by simp [rx_fs]; omega), List.getElem?_eq_none (by simp [rx_fs]; omega)]
        simp only [this]
      | inr u =>
        obtain ⟨t, n⟩ := u
        cases t with
        | zero => rfl
        | succ t =>
          have : (fun i => (Ω.2.2 (rx_pl hp r).2.2 k i).map G.2.2.1) = (fun i => (Ω.2.2 hp.2.2 k i).map G.2.2.1) := by
            funext i
            simp [rx_pl, ho k i (fun h => hkb h.1)]
          simp only [this]
    rw [rx_wd_set (hp' := rx_pl hp r) (by simp only [rx_cell, hk]; rw [e1]; rfl) e2] at hP1
    exact hP1
theorem r_iald {b n : Nat} {x : Int32} (hd : decode q.2.1 pc = .ok (.iaload, 1)) (hb : b < Ω.1) (hk : Ω.2.1 b = .inr (0, n)) (hi : vp_in x n) {v : Int32} (hv : hp.2.1 b x.toNatClampNeg = v) (k : Rn Ω G d q (pc + 1) lv (.int v :: st) hp Q) : Rn Ω G d q pc lv (.int x :: .ref b :: st) hp Q := by
  intro p e s m args below meth c H locs ls C hl hP hS
  have hc : rx_cell Ω G hp b = .inl (G.2.2.2.1, n, .inl (hp.2.1 b)) := by simp only [rx_cell, hk]
  subst hv
  exact va_iald C.1 C.2.1 C.2.2.2.2.2.2.2.2.1 hP b 0 (by rw [rx_wd_get hb, hc]) rfl hi hd (k p e s m args below meth c H locs ls C hl hP hS)
theorem r_iast {b n : Nat} {x v : Int32} (hd : decode q.2.1 pc = .ok (.iastore, 1)) (hb : b < Ω.1) (hk : Ω.2.1 b = .inr (0, n)) (hi : vp_in x n) {i : Nat} (hx : x.toNatClampNeg = i) (k : Rn Ω G d q (pc + 1) lv st (rx_pa hp b i v) Q) : Rn Ω G d q pc lv (.int v :: .int x :: .ref b :: st) hp Q := by
  intro p e s m args below meth c H locs ls C hl hP hS
  have hc : rx_cell Ω G hp b = .inl (G.2.2.2.1, n, .inl (hp.2.1 b)) := by simp only [rx_cell, hk]
  subst hx
  refine va_iast C.1 C.2.1 C.2.2.2.2.2.2.2.2.1 hP (rx_D C.2.2.2.2.2.2.2.1) hS b 0 (by rw [rx_wd_get hb, hc]) rfl hi hd (fun H1 locs1 hP1 _ hS1 => k p e s m args below meth c H1 locs1 ls C hl ?_ hS1)
  rw [rx_wd_set (hp' := rx_pa hp b x.toNatClampNeg v) (by simp only [rx_cell, hk]; simp [rx_pa]) (fun k hk' => rx_cell_pa hk')] at hP1
  exact hP1
theorem r_alen {b n t : Nat} {v : Int32} (hd : decode q.2.1 pc = .ok (.arraylength, 1)) (hb : b < Ω.1) (hk : Ω.2.1 b = .inr (t, n)) (hv : Int32.ofNat n = v) (k : Rn Ω G d q (pc + 1) lv (.int v :: st) hp Q) : Rn Ω G d q pc lv (.ref b :: st) hp Q := by
  intro p e s m args below meth c H locs ls C hl hP hS
  cases t with
  | zero =>
    have hc : rx_cell Ω G hp b = .inl (G.2.2.2.1, n, .inl (hp.2.1 b)) := by simp only [rx_cell, hk]
    exact va_alen C.1 C.2.1 C.2.2.2.2.2.2.2.2.1 hP b 0 (by rw [rx_wd_get hb, hc]) rfl hv hd (k p e s m args below meth c H locs ls C hl hP hS)
  | succ t =>
    have hc : rx_cell Ω G hp b = .inl (G.2.2.2.2.1, n, .inr (.inr (.inr (.inr fun i => (Ω.2.2 hp.2.2 b i).map G.2.2.1)))) := by simp only [rx_cell, hk]
    exact va_alen C.1 C.2.1 C.2.2.2.2.2.2.2.2.1 hP b 1 (by rw [rx_wd_get hb, hc]) rfl hv hd (k p e s m args below meth c H locs ls C hl hP hS)
theorem r_aald {b n t r : Nat} {x : Int32} (hd : decode q.2.1 pc = .ok (.aaload, 1)) (hb : b < Ω.1) (hk : Ω.2.1 b = .inr (t + 1, n)) (hi : vp_in x n) (hr : Ω.2.2 hp.2.2 b x.toNatClampNeg = some r) (k : Rn Ω G d q (pc + 1) lv (.ref r :: st) hp Q) : Rn Ω G d q pc lv (.int x :: .ref b :: st) hp Q := by
  intro p e s m args below meth c H locs ls C hl hP hS
  have hc : rx_cell Ω G hp b = .inl (G.2.2.2.2.1, n, .inr (.inr (.inr (.inr fun i => (Ω.2.2 hp.2.2 b i).map G.2.2.1)))) := by simp only [rx_cell, hk]
  refine va_aldq C.1 C.2.1 C.2.2.2.2.2.2.2.2.1 hP b 1 (C := "GlassRoom$Light") (by rw [rx_wd_get hb, hc]) rfl hi hd ?_
  have := k p e s m args below meth c H locs ls C hl hP hS
  simpa [hr, va_rf, rx_tr] using this
theorem r_iret {v : Int32} (hd : decode q.2.1 pc = .ok (.ireturn, 1)) (hr : q.2.2.2 = some .int) (h : Q (some (.int v)) hp) : Rn Ω G d q pc lv [.int v] hp Q := by
  intro p e s m args below meth c H locs ls C hl hP hS
  exact W.iret C.1 C.2.1 (C.2.2.1.trans hr) (fun t ht hW => ⟨⟨some (.int v), hp, rfl, h, by rw [ht]; exact hP⟩, hS.F ht⟩) hS.2.2 hd C.2.2.2.2.2.2.1
theorem r_zret {v : Int32} (hd : decode q.2.1 pc = .ok (.ireturn, 1)) (hr : q.2.2.2 = some .boolean) (hn : v = 0 ∨ v = 1) (h : Q (some (.int v)) hp) : Rn Ω G d q pc lv [.int v] hp Q := by
  intro p e s m args below meth c H locs ls C hl hP hS
  exact W.zret C.1 C.2.1 (C.2.2.1.trans hr) (by rcases hn with rfl | rfl <;> rfl) (fun t ht hW => ⟨⟨some (.int v), hp, rfl, h, by rw [ht]; exact hP⟩, hS.F ht⟩) hS.2.2 hd C.2.2.2.2.2.2.1
theorem r_vret (hd : decode q.2.1 pc = .ok (.return_, 1)) (hr : q.2.2.2 = none) (h : Q none hp) : Rn Ω G d q pc lv [] hp Q := by
  intro p e s m args below meth c H locs ls C hl hP hS
  exact W.vret C.1 C.2.1 (C.2.2.1.trans hr) (fun t ht hW => ⟨⟨none, hp, rfl, h, by rw [ht]; exact hP⟩, hS.F ht⟩) hS.2.2 hd C.2.2.2.2.2.2.1
theorem r_aret {r : Nat} {cn : String} (hd : decode q.2.1 pc = .ok (.areturn, 1)) (hr : q.2.2.2 = some (.object cn)) (h : Q (some (.ref r)) hp) : Rn Ω G d q pc lv [.ref r] hp Q := by
  intro p e s m args below meth c H locs ls C hl hP hS
  exact W.aret C.1 C.2.1 (C.2.2.1.trans hr) (Or.inl ⟨cn, rfl⟩) (Or.inr ⟨G.2.2.1 r, rfl⟩) (fun t ht hW => ⟨⟨some (.ref r), hp, rfl, h, by rw [ht]; exact hP⟩, hS.F ht⟩) hS.2.2 hd C.2.2.2.2.2.2.1
end RXH
/-! the static rows and texts that do not change -/
section RXT
variable {Ω : rx_Om} {G : rx_Gh} {d : Nat} {q : rx_Mi} {pc : Nat} {lv : List (Option Value)} {st : List Value} {hp : rx_Hp} {Q : rx_Po}
def rx_sa (t : Nat) : List Int32 := match t with
  | 0 => rx_sU
  | 1 => rx_sL
  | _ => rx_sM
theorem r_gets {idx t : Nat} {n : String} (hd : decode q.2.1 pc = .ok (.getstatic idx, 3)) (ht : (t = 0 ∧ n = "USUAL") ∨ (t = 1 ∧ n = "LEAST") ∨ (t = 2 ∧ n = "MOST")) (hF : Cond.fieldLink q.1.cls idx "GlassRoom$HallReader" n "[I" ∈ rx_gw) (k : Rn Ω G d q (pc + 3) lv (.ref (1000 + t) :: st) hp Q) : Rn Ω G d q pc lv st hp Q := by
  intro p e s m args below meth c H locs ls C hl hP hS
  obtain ⟨⟨z1, z2, z3, z4⟩, -⟩ := C.2.2.2.2.2.2.2.2.2.1
  have kk := k p e s m args below meth c H locs ls C hl hP hS
  rcases ht with ⟨rfl, rfl⟩ | ⟨rfl, rfl⟩ | ⟨rfl, rfl⟩
  · exact va_gets C.1 C.2.1 z1 hS C.2.2.2.2.1 (C.2.2.2.2.2.1 _ hF) (fun _ h9 => h9) hd kk
  · exact va_gets C.1 C.2.1 z2 hS C.2.2.2.2.1 (C.2.2.2.2.2.1 _ hF) (fun _ h9 => h9) hd kk
  · exact va_gets C.1 C.2.1 z3 hS C.2.2.2.2.1 (C.2.2.2.2.2.1 _ hF) (fun _ h9 => h9) hd kk
theorem rx_tT {Ω : rx_Om} {G : rx_Gh} {s : State} {t : Nat} (h : rx_St G (rx_A Ω G) s s.heap) (ht : t < 3) : va_T .int (G.2.2.1 (1000 + t)) 7 (fun j => .int ((rx_sa t).getD j 0)) (rx_A Ω G) s s.heap := by
  obtain ⟨-, ⟨t1, t2, t3⟩, -⟩ := h
  match t, ht with
  | 0, _ => exact t1
  | 1, _ => exact t2
  | 2, _ => exact t3
theorem r_tald {t : Nat} {x v : Int32} (hd : decode q.2.1 pc = .ok (.iaload, 1)) (ht : t < 3) (hi : vp_in x 7) (hv : (rx_sa t).getD x.toNatClampNeg 0 = v) (k : Rn Ω G d q (pc + 1) lv (.int v :: st) hp Q) : Rn Ω G d q pc lv (.int x :: .ref (1000 + t) :: st) hp Q := by
  intro p e s m args below meth c H locs ls C hl hP hS
  exact va_ti C.1 C.2.1 (rx_tT C.2.2.2.2.2.2.2.2.2.1 ht) hS hi (by rw [hv]; rfl) hd (k p e s m args below meth c H locs ls C hl hP hS)
theorem r_talen {t : Nat} (hd : decode q.2.1 pc = .ok (.arraylength, 1)) (ht : t < 3) (k : Rn Ω G d q (pc + 1) lv (.int 7 :: st) hp Q) : Rn Ω G d q pc lv (.ref (1000 + t) :: st) hp Q := by
  intro p e s m args below meth c H locs ls C hl hP hS
  exact va_tlen C.1 C.2.1 (rx_tT C.2.2.2.2.2.2.2.2.2.1 ht) hS (by decide) hd (k p e s m args below meth c H locs ls C hl hP hS)
theorem r_getsZ {idx : Nat} (hd : decode q.2.1 pc = .ok (.getstatic idx, 3)) (hF : Cond.fieldLink q.1.cls idx "java/lang/String" "COMPACT_STRINGS" "Z" ∈ rx_gw) (k : Rn Ω G d q (pc + 3) lv (.int 1 :: st) hp Q) : Rn Ω G d q pc lv st hp Q := by
  intro p e s m args below meth c H locs ls C hl hP hS
  obtain ⟨⟨z1, z2, z3, z4⟩, -⟩ := C.2.2.2.2.2.2.2.2.2.1
  exact va_gets C.1 C.2.1 z4 hS C.2.2.2.2.1 (C.2.2.2.2.2.1 _ hF) (fun _ h9 => h9) hd (k p e s m args below meth c H locs ls C hl hP hS)
theorem r_ldcT {idx t : Nat} (hd : decode q.2.1 pc = .ok (.ldc idx, 2)) (ht : (t = 0 ∧ q.1.cls = "GlassRoom$HallReader" ∧ idx = 91) ∨ (t = 1 ∧ q.1.cls = "GlassRoom$LightReader" ∧ idx = 67)) (k : Rn Ω G d q (pc + 2) lv (.ref (2000 + t) :: st) hp Q) : Rn Ω G d q pc lv st hp Q := by
  intro p e s m args below meth c H locs ls C hl hP hS
  have kk := k p e s m args below meth c H locs ls C hl hP hS
  have ho := C.2.2.2.2.1
  have hR := C.2.2.2.2.2.2.2.2.2.2.1
  rcases ht with ⟨rfl, h2, rfl⟩ | ⟨rfl, h2, rfl⟩
  · rw [h2] at ho
    exact va_ldcS C.1 C.2.1 ho hR.1.1 hd kk
  · rw [h2] at ho
    exact va_ldcS C.1 C.2.1 ho hR.1.2.1 hd kk
theorem r_getTv {idx t : Nat} (hd : decode q.2.1 pc = .ok (.getfield idx, 3)) (ht : t < 2) (hF : Cond.fieldLink q.1.cls idx "java/lang/String" "value" "[B" ∈ rx_gw) (k : Rn Ω G d q (pc + 3) lv (.ref (3000 + t) :: st) hp Q) : Rn Ω G d q pc lv (.ref (2000 + t) :: st) hp Q := by
  intro p e s m args below meth c H locs ls C hl hP hS
  have h := C.2.2.2.2.2.2.2.2.2.1.2.2.1 t ht
  exact vk_getf C.1 C.2.1 h.2.2.1 hS C.2.2.2.2.1 (C.2.2.2.2.2.1 _ hF) (fun _ h9 => h9) hd (k p e s m args below meth c H locs ls C hl hP hS)
theorem r_getTc {idx t : Nat} (hd : decode q.2.1 pc = .ok (.getfield idx, 3)) (ht : t < 2) (hF : Cond.fieldLink q.1.cls idx "java/lang/String" "coder" "B" ∈ rx_gw) (k : Rn Ω G d q (pc + 3) lv (.int 0 :: st) hp Q) : Rn Ω G d q pc lv (.ref (2000 + t) :: st) hp Q := by
  intro p e s m args below meth c H locs ls C hl hP hS
  have h := C.2.2.2.2.2.2.2.2.2.1.2.2.1 t ht
  exact vk_getf C.1 C.2.1 h.2.1 hS C.2.2.2.2.1 (C.2.2.2.2.2.1 _ hF) (fun _ h9 => h9) hd (k p e s m args below meth c H locs ls C hl hP hS)
theorem r_bald {t n : Nat} {x v : Int32} (hd : decode q.2.1 pc = .ok (.baload, 1)) (ht : t < 2) (hn : [7, 6].getD t 0 = n) (hi : vp_in x n) (hv : (rx_byt.getD t []).getD x.toNatClampNeg 0 = v) (k : Rn Ω G d q (pc + 1) lv (.int v :: st) hp Q) : Rn Ω G d q pc lv (.int x :: .ref (3000 + t) :: st) hp Q := by
  intro p e s m args below meth c H locs ls C hl hP hS
  have h := C.2.2.2.2.2.2.2.2.2.1.2.2.1 t ht
  subst hn
  exact va_tb C.1 C.2.1 h.2.2.2 hS hi (by rw [hv]; rfl) hd (k p e s m args below meth c H locs ls C hl hP hS)
theorem r_balen {t n : Nat} {v : Int32} (hd : decode q.2.1 pc = .ok (.arraylength, 1)) (ht : t < 2) (hn : [7, 6].getD t 0 = n) (hv : Int32.ofNat n = v) (k : Rn Ω G d q (pc + 1) lv (.int v :: st) hp Q) : Rn Ω G d q pc lv (.ref (3000 + t) :: st) hp Q := by
  intro p e s m args below meth c H locs ls C hl hP hS
  have h := C.2.2.2.2.2.2.2.2.2.1.2.2.1 t ht
  subst hn
  exact va_tlen C.1 C.2.1 h.2.2.2 hS hv hd (k p e s m args below meth c H locs ls C hl hP hS)
end RXT

/-! the lifted machine: a fixed set of cells, by numbers; Ev: a method's contract, Rn: from inside of a method on -/
abbrev rx_Kd : Type := Nat ⊕ (Nat × Nat)
abbrev rx_Hp : Type := (Nat → Nat → Int32) × (Nat → Nat → Int32) × Nat
abbrev rx_Om : Type := Nat × (Nat → rx_Kd) × (Nat → Nat → Nat → Option Nat)
abbrev rx_Gh : Type := Launch × va_G × (Nat → Nat) × ClassId × ClassId × Nat
abbrev rx_Po : Type := Option Value → rx_Hp → Prop
def rx_tr (ad : Nat → Nat) : Value → Value
  | .ref k => .ref (ad k)
  | v => v
theorem rx_tr_cat (ad : Nat → Nat) (v : Value) : (rx_tr ad v).category = v.category := by cases v <;> rfl
theorem rx_cats (ad : Nat → Nat) (st : List Value) : ((st.map (rx_tr ad)).map fun v => v.category).sum = (st.map fun v => v.category).sum := by
  induction st with
  | nil => rfl
  | cons v st ih => simp only [List.map_cons, List.sum_cons, rx_tr_cat, ih]
def rx_fv (Ω : rx_Om) (ad : Nat → Nat) (hp : rx_Hp) (k : Nat) (b : Bool) (j : Nat) : Value := match b with
  | true => va_rf ((Ω.2.2 hp.2.2 k j).map ad)
  | false => .int (hp.1 k j)
def rx_fs (Ω : rx_Om) (ad : Nat → Nat) (hp : rx_Hp) (k : Nat) (sh : List Bool) : List Value := sh.mapIdx (fun j b => rx_fv Ω ad hp k b j)
theorem rx_fs_get {Ω : rx_Om} {ad : Nat → Nat} {hp : rx_Hp} {k j : Nat} {sh : List Bool} {b : Bool} (h : sh[j]? = some b) : (rx_fs Ω ad hp k sh)[j]? = some (rx_fv Ω ad hp k b j) := by
  simp [rx_fs, List.getElem?_mapIdx, h]
def rx_cell (Ω : rx_Om) (G : rx_Gh) (hp : rx_Hp) (k : Nat) : va_E := match Ω.2.1 k with
  | .inl ci => .inr (ci, rx_fs Ω G.2.2.1 hp k (rx_sh ci))
  | .inr (0, n) => .inl (G.2.2.2.1, n, .inl (hp.2.1 k))
  | .inr (_ + 1, n) => .inl (G.2.2.2.2.1, n, .inr (.inr (.inr (.inr fun i => (Ω.2.2 hp.2.2 k i).map G.2.2.1))))
def rx_wd (Ω : rx_Om) (G : rx_Gh) (hp : rx_Hp) : va_W := (List.range Ω.1).map (fun k => (G.2.2.1 k, rx_cell Ω G hp k))
def rx_A (Ω : rx_Om) (G : rx_Gh) : Nat → Prop := fun q => (∃ k, k < Ω.1 ∧ q = G.2.2.1 k) ∨ G.2.2.2.2.2 ≤ q
def rx_inj (Ω : rx_Om) (G : rx_Gh) : Prop := ∀ i j, i < Ω.1 → j < Ω.1 → G.2.2.1 i = G.2.2.1 j → i = j
theorem rx_wd_get {Ω : rx_Om} {G : rx_Gh} {hp : rx_Hp} {k : Nat} (h : k < Ω.1) : (rx_wd Ω G hp)[k]? = some (G.2.2.1 k, rx_cell Ω G hp k) := by
  simp [rx_wd, h]
theorem rx_wd_inv {Ω : rx_Om} {G : rx_Gh} {hp : rx_Hp} {k : Nat} {q : Nat × va_E} (h : (rx_wd Ω G hp)[k]? = some q) : k < Ω.1 ∧ q = (G.2.2.1 k, rx_cell Ω G hp k) := by
  have hk : k < Ω.1 := by
    have h1 := (List.getElem?_eq_some_iff.mp h).1
    simpa [rx_wd] using h1
  rw [rx_wd_get hk] at h
  exact ⟨hk, (Option.some.inj h).symm⟩
theorem rx_wd_set {Ω : rx_Om} {G : rx_Gh} {hp hp' : rx_Hp} {k : Nat} {x : va_E} (hx : rx_cell Ω G hp' k = x) (ho : ∀ j, j ≠ k → rx_cell Ω G hp' j = rx_cell Ω G hp j) : (rx_wd Ω G hp).set k (G.2.2.1 k, x) = rx_wd Ω G hp' := by
  apply List.ext_getElem?
  intro j
  by_cases hj : j < Ω.1
  · by_cases hjk : j = k
    · subst hjk
      rw [List.getElem?_set_self (by simp [rx_wd, hj]), rx_wd_get hj, hx]
    · rw [List.getElem?_set_ne (Ne.symm hjk), rx_wd_get hj, rx_wd_get hj, ho j hjk]
  · rw [List.getElem?_eq_none (by simp [rx_wd]; omega), List.getElem?_eq_none (by simp [rx_wd]; omega)]
theorem rx_D {Ω : rx_Om} {G : rx_Gh} {hp : rx_Hp} (h : rx_inj Ω G) : va_D (rx_A Ω G) (rx_wd Ω G hp) := by
  refine ⟨fun i j x y hi hj hxy => ?_, fun k q hk => ?_⟩
  · obtain ⟨a1, rfl⟩ := rx_wd_inv hi
    obtain ⟨a2, rfl⟩ := rx_wd_inv hj
    exact h i j a1 a2 hxy
  · obtain ⟨a1, rfl⟩ := rx_wd_inv hk
    exact Or.inl ⟨k, a1, rfl⟩
def rx_sU : List Int32 := [10, 8, 15, 10, 1, 1, 1]
def rx_sL : List Int32 := [1, 1, 0, 0, 0, 0, 0]
def rx_sM : List Int32 := [20, 20, 15, 99, 20, 20, 1]
def rx_byt : List (List Int32) := [[119, 104, 103, 116, 120, 121, 97], [110, 102, 116, 105, 106, 98]]
def rx_St (G : rx_Gh) (A : Nat → Prop) (U : State) (H : Heap) : Prop :=
  (va_Z "GlassRoom$HallReader" "USUAL" "[I" (.ref (G.2.2.1 1000)) A U H ∧ va_Z "GlassRoom$HallReader" "LEAST" "[I" (.ref (G.2.2.1 1001)) A U H ∧ va_Z "GlassRoom$HallReader" "MOST" "[I" (.ref (G.2.2.1 1002)) A U H ∧ va_Z "java/lang/String" "COMPACT_STRINGS" "Z" (.int 1) A U H) ∧
  (va_T .int (G.2.2.1 1000) 7 (fun j => .int (rx_sU.getD j 0)) A U H ∧ va_T .int (G.2.2.1 1001) 7 (fun j => .int (rx_sL.getD j 0)) A U H ∧ va_T .int (G.2.2.1 1002) 7 (fun j => .int (rx_sM.getD j 0)) A U H) ∧
  vk_S 2 [7, 6] rx_byt (fun i => G.2.2.1 (2000 + i)) (fun i => G.2.2.1 (3000 + i)) A U H
theorem rx_St.moved {G : rx_Gh} {A : Nat → Prop} {u U : State} {H : Heap} (hvm : u.vm.Alike U.vm) (h : rx_St G A u H) : rx_St G A U H := by
  obtain ⟨⟨a1, a2, a3, a4⟩, ⟨b1, b2, b3⟩, c1⟩ := h
  exact ⟨⟨a1.moved hvm, a2.moved hvm, a3.moved hvm, a4.moved hvm⟩, ⟨b1.moved hvm, b2.moved hvm, b3.moved hvm⟩, c1.moved hvm⟩
theorem rx_St.kept {G : rx_Gh} {A : Nat → Prop} {U : State} {H H1 : Heap} (h : rx_St G A U H) (hq : ∀ a : Nat, a < H.size → ¬ A a → H1[a]? = H[a]?) : rx_St G A U H1 := by
  obtain ⟨⟨a1, a2, a3, a4⟩, ⟨b1, b2, b3⟩, c1⟩ := h
  exact ⟨⟨a1.kept hq, a2.kept hq, a3.kept hq, a4.kept hq⟩, ⟨b1.kept hq, b2.kept hq, b3.kept hq⟩, c1.kept hq⟩
theorem rx_St.narrow {G : rx_Gh} {A B : Nat → Prop} {U : State} {H : Heap} (h : rx_St G A U H) (hAB : ∀ q, B q → A q) : rx_St G B U H := by
  obtain ⟨⟨a1, a2, a3, a4⟩, ⟨b1, b2, b3⟩, c1⟩ := h
  exact ⟨⟨a1.narrow hAB, a2.narrow hAB, a3.narrow hAB, a4.narrow hAB⟩, ⟨b1.narrow hAB, b2.narrow hAB, b3.narrow hAB⟩, c1.narrow hAB⟩
def rx_N1 : Cond := .methodLinkNest "GlassRoom$Ball" 38 ⟨"GlassRoom", "glasses", "(II)I"⟩ "GlassRoom"
def rx_N2 : Cond := .methodLinkNest "GlassRoom$Ball" 48 ⟨"GlassRoom", "divisor", "(II)I"⟩ "GlassRoom"
def rx_N3 : Cond := .methodLinkNest "GlassRoom$Hanger" 40 ⟨"GlassRoom", "divisor", "(II)I"⟩ "GlassRoom"
def rx_Rs (G : rx_Gh) (U : State) : Prop := (vk_R "GlassRoom$HallReader" 91 "whgtxya" (G.2.2.1 2000) U ∧ vk_R "GlassRoom$LightReader" 67 "nftijb" (G.2.2.1 2001) U ∧ vk_R "GlassRoom" 150 "no such body, or nothing of it has this number" (G.2.2.1 2002) U) ∧ va_Nw rx_N1 U ∧ va_Nw rx_N2 U ∧ va_Nw rx_N3 U
theorem rx_Rs.warm {G : rx_Gh} {s U : State} (hW : s.WarmedH U.vm) (h : rx_Rs G s) : rx_Rs G U := ⟨⟨vk_R.warm hW h.1.1, vk_R.warm hW h.1.2.1, vk_R.warm hW h.1.2.2⟩, va_Nw.warmM hW h.2.1, va_Nw.warmM hW h.2.2.1, va_Nw.warmM hW h.2.2.2⟩
theorem rx_Rs.same {G : rx_Gh} {u U : State} (hv : U.vm = u.vm) (h : rx_Rs G u) : rx_Rs G U := ⟨⟨vk_R.same hv h.1.1, vk_R.same hv h.1.2.1, vk_R.same hv h.1.2.2⟩, va_Nw.same rfl hv.symm h.2.1, va_Nw.same rfl hv.symm h.2.2.1, va_Nw.same rfl hv.symm h.2.2.2⟩
def rx_ty (G : rx_Gh) : List (ClassId × FieldType) := [(G.2.2.2.1, .int), (G.2.2.2.2.1, .object "GlassRoom$Light")]
def rx_B (Ω : rx_Om) (G : rx_Gh) (hp : rx_Hp) (U : State) : Prop :=
  G.2.2.2.2.2 ≤ U.heap.size ∧ rx_inj Ω G ∧ va_P G.2.1 vwCl (rx_wd Ω G hp) U.heap ∧ va_K G.2.1 vwCl (rx_ty G) U ∧ rx_St G (rx_A Ω G) U U.heap ∧ rx_Rs G U
def rx_ws (q : rx_Mi) : List Cond := .code q.1 q.2.1 q.2.2.1 q.2.2.2 :: rx_gw
def rx_rm (d : Nat) : Room := { frames := d + 8, cells := 0, slots := 0, locals := 64 * d + 400 }
def rx_Q (Ω : rx_Om) (G : rx_Gh) (Q : rx_Po) : Array Value → State → Outcome → State → Prop := fun _ st oc t => (∃ (r : Option Value) (hp' : rx_Hp), oc = .returned (r.map (rx_tr G.2.2.1)) ∧ Q r hp' ∧ va_P G.2.1 vwCl (rx_wd Ω G hp') t.heap) ∧ va_F (rx_A Ω G) st t
/-- a method's contract: from the cells hp, with these arguments, it returns r and leaves hp' with Q r hp' -/
def Ev (Ω : rx_Om) (G : rx_Gh) (d : Nat) (q : rx_Mi) (as : List Value) (hp : rx_Hp) (Q : rx_Po) : Prop :=
  Met G.1 q.1 (rx_ws q) (rx_rm d) (va_Pc (as.map (rx_tr G.2.2.1)) (rx_B Ω G hp)) (rx_Q Ω G Q) 0 0 (rx_A Ω G)
def rx_lvF (ad : Nat → Nat) : Nat → List (Option Value) → List (Nat × Value)
  | _, [] => []
  | i, none :: vs => rx_lvF ad (i + 1) vs
  | i, some v :: vs => (i, rx_tr ad v) :: rx_lvF ad (i + 1) vs
theorem rx_lvF_mem {ad : Nat → Nat} : ∀ (vs : List (Option Value)) (i : Nat) (q : Nat × Value), q ∈ rx_lvF ad i vs ↔ ∃ (k : Nat) (v : Value), vs[k]? = some (some v) ∧ q = (i + k, rx_tr ad v)
  | [], i, q => by simp [rx_lvF]
  | none :: vs, i, q => by
    rw [rx_lvF, rx_lvF_mem vs (i + 1) q]
    constructor
    · rintro ⟨k, v, h, rfl⟩
      exact ⟨k + 1, v, by simpa using h, by rw [show i + 1 + k = i + (k + 1) by omega]⟩
    · rintro ⟨k, v, h, rfl⟩
      cases k with
      | zero => simp at h
      | succ k => exact ⟨k, v, by simpa using h, by rw [show i + 1 + k = i + (k + 1) by omega]⟩
  | some w :: vs, i, q => by
    rw [rx_lvF, List.mem_cons, rx_lvF_mem vs (i + 1) q]
    constructor
    · rintro (rfl | ⟨k, v, h, rfl⟩)
      · exact ⟨0, w, rfl, rfl⟩
      · exact ⟨k + 1, v, by simpa using h, by rw [show i + 1 + k = i + (k + 1) by omega]⟩
    · rintro ⟨k, v, h, rfl⟩
      cases k with
      | zero =>
        have h2 : w = v := by simpa using h
        subst h2
        exact Or.inl rfl
      | succ k => exact Or.inr ⟨k, v, by simpa using h, by rw [show i + 1 + k = i + (k + 1) by omega]⟩
def rx_lv (ad : Nat → Nat) (lv : List (Option Value)) : List (Nat × Value) := rx_lvF ad 0 lv
theorem rx_lv_mem {ad : Nat → Nat} {lv : List (Option Value)} {q : Nat × Value} : q ∈ rx_lv ad lv ↔ ∃ (k : Nat) (v : Value), lv[k]? = some (some v) ∧ q = (k, rx_tr ad v) := by
  rw [rx_lv, rx_lvF_mem]
  constructor <;> (rintro ⟨k, v, h, e⟩; exact ⟨k, v, h, by simpa using e⟩)
theorem rx_ld {ad : Nat → Nat} {lv : List (Option Value)} {ls : Array Slot} {nL i : Nat} {v : Value} (hl : lv_has ls nL (rx_lv ad lv)) (h : lv[i]? = some (some v)) : ls[i]? = some (.val (rx_tr ad v)) :=
  hl.2.2 (i, rx_tr ad v) (rx_lv_mem.mpr ⟨i, v, h, rfl⟩)
def rx_okS (lv : List (Option Value)) (i : Nat) : Bool := match i with
  | 0 => true
  | j + 1 => match lv[j]? with
    | some (some w) => w.category == 1
    | _ => true
theorem rx_st1 {ad : Nat → Nat} {lv : List (Option Value)} {ls : Array Slot} {nL i : Nat} {v : Value} (hl : lv_has ls nL ((i, rx_tr ad v) :: (rx_lv ad lv).filter (fun q => !(q.1 == i) && !(q.1 + 1 == i && q.2.category == 2)))) (ho : rx_okS lv i = true) : lv_has ls nL (rx_lv ad (lv.set i (some v))) := by
  refine ⟨hl.1, hl.2.1, fun q hq => hl.2.2 q ?_⟩
  obtain ⟨k, w, hk, rfl⟩ := rx_lv_mem.mp hq
  by_cases hki : k = i
  · subst hki
    have hlt : k < lv.length := by
      have := (List.getElem?_eq_some_iff.mp hk).1
      simpa using this
    rw [List.getElem?_set_self hlt] at hk
    have hvw : v = w := by simpa using hk
    subst hvw
    exact List.mem_cons_self
  · rw [List.getElem?_set_ne (Ne.symm hki)] at hk
    refine List.mem_cons_of_mem _ (List.mem_filter.mpr ⟨rx_lv_mem.mpr ⟨k, w, hk, rfl⟩, ?_⟩)
    simp only [Bool.and_eq_true, Bool.not_eq_true', beq_eq_false_iff_ne, ne_eq, Bool.and_eq_false_iff]
    refine ⟨hki, ?_⟩
    by_cases h1 : k + 1 = i
    · subst h1
      right
      simp only [rx_okS, hk] at ho
      rw [rx_tr_cat]
      have ho : w.category = 1 := by simpa using ho
      omega
    · exact Or.inl h1
theorem rx_st2 {ad : Nat → Nat} {lv : List (Option Value)} {ls : Array Slot} {nL i : Nat} {v : Value} (hl : lv_has ls nL ((i, rx_tr ad v) :: (rx_lv ad lv).filter (fun q => !(q.1 == i) && (!(q.1 == i + 1) && !(q.1 + 1 == i && q.2.category == 2))))) (ho : rx_okS lv i = true) : lv_has ls nL (rx_lv ad ((lv.set i (some v)).set (i + 1) none)) := by
  refine ⟨hl.1, hl.2.1, fun q hq => hl.2.2 q ?_⟩
  obtain ⟨k, w, hk, rfl⟩ := rx_lv_mem.mp hq
  have hk1 : ¬ k = i + 1 := by
    intro h
    subst h
    by_cases hlt : i + 1 < (lv.set i (some v)).length
    · rw [List.getElem?_set_self hlt] at hk
      simp at hk
    · rw [List.getElem?_eq_none (by simp at hlt ⊢; omega)] at hk
      cases hk
  rw [List.getElem?_set_ne (fun h => hk1 h.symm)] at hk
  by_cases hki : k = i
  · subst hki
    have hlt : k < lv.length := by
      have := (List.getElem?_eq_some_iff.mp hk).1
      simpa using this
    rw [List.getElem?_set_self hlt] at hk
    have hvw : v = w := by simpa using hk
    subst hvw
    exact List.mem_cons_self
  · rw [List.getElem?_set_ne (Ne.symm hki)] at hk
    refine List.mem_cons_of_mem _ (List.mem_filter.mpr ⟨rx_lv_mem.mpr ⟨k, w, hk, rfl⟩, ?_⟩)
    simp only [Bool.and_eq_true, Bool.not_eq_true', beq_eq_false_iff_ne, ne_eq, Bool.and_eq_false_iff]
    refine ⟨hki, hk1, ?_⟩
    by_cases h1 : k + 1 = i
    · subst h1
      right
      simp only [rx_okS, hk] at ho
      rw [rx_tr_cat]
      have ho : w.category = 1 := by simpa using ho
      omega
    · exact Or.inl h1
/-- what holds all through a method: the machine, the code, the words, what does not change -/
def rx_Cx (Ω : rx_Om) (G : rx_Gh) (q : rx_Mi) (p : Program) (s : State) (m : MethodId) (args : Array Value) (meth : Method) (c : Code) : Prop :=
  p.tables.exec = Jvm.exec ∧ c.code = q.2.1 ∧ meth.sig.returnType = q.2.2.2 ∧ c.maxLocals = q.2.2.1 ∧ s.vm.findClass q.1.cls = some m.cls ∧ (∀ w ∈ rx_gw, w.before args s = true) ∧ meth.locks = false ∧ rx_inj Ω G ∧ va_K G.2.1 vwCl (rx_ty G) s ∧ rx_St G (rx_A Ω G) s s.heap ∧ rx_Rs G s ∧ G.2.2.2.2.2 ≤ s.heap.size
/-- from here on: at pc, with these locals, this stack, these cells, the method ends with Q -/
def Rn (Ω : rx_Om) (G : rx_Gh) (d : Nat) (q : rx_Mi) (pc : Nat) (lv : List (Option Value)) (st : List Value) (hp : rx_Hp) (Q : rx_Po) : Prop :=
  ∀ (p : Program) (e : Env) (s : State) (m : MethodId) (args : Array Value) (below : List Frame) (meth : Method) (c : Code) (H : Heap) (locs : List Loc) (ls : Array Slot), rx_Cx Ω G q p s m args meth c → lv_has ls q.2.2.1 (rx_lv G.2.2.1 lv) → va_P G.2.1 vwCl (rx_wd Ω G hp) H → va_S (rx_A Ω G) s.heap H locs →
    W p G.1 e (rx_rm d) s m args below meth c H locs 0 0 (MQ below (rx_Q Ω G Q) args s 0 0 (rx_A Ω G)) (F0 m pc ls (st.map (rx_tr G.2.2.1)))
def rx_ent : List Value → List (Option Value)
  | [] => []
  | v :: vs => match v with
    | .long x => some (.long x) :: none :: rx_ent vs
    | w => some w :: rx_ent vs
theorem rx_ent_mem (ad : Nat → Nat) : ∀ (as : List Value) (i : Nat), (∀ v ∈ as, v.category = 2 → ∃ x, v = .long x) → ∀ q ∈ rx_lvF ad i (rx_ent as), q ∈ lv_args i (as.map (rx_tr ad))
  | [], i, _, q, h => by simp [rx_ent, rx_lvF] at h
  | v :: vs, i, hc, q, h => by
    have hc' : ∀ w ∈ vs, w.category = 2 → ∃ x, w = .long x := fun w hw => hc w (List.mem_cons_of_mem _ hw)
    by_cases h2 : v.category = 2
    · obtain ⟨x, rfl⟩ := hc v List.mem_cons_self h2
      simp only [rx_ent, rx_lvF, List.mem_cons] at h
      simp only [List.map_cons, lv_args, List.mem_cons]
      rcases h with rfl | h
      · exact Or.inl rfl
      · right
        have := rx_ent_mem ad vs (i + 1 + 1) hc' q h
        simpa [rx_tr, Value.category] using this
    · have h1 : v.category = 1 := by rcases lv_cat v with h | h <;> omega
      have he : rx_ent (v :: vs) = some v :: rx_ent vs := by
        cases v <;> first | rfl | (simp [Value.category] at h1)
      rw [he, rx_lvF, List.mem_cons] at h
      simp only [List.map_cons, lv_args, List.mem_cons]
      rcases h with rfl | h
      · exact Or.inl rfl
      · right
        have := rx_ent_mem ad vs (i + 1) hc' q h
        simpa [rx_tr_cat, h1] using this
theorem rx_lv_app {ad : Nat → Nat} {lv : List (Option Value)} {n : Nat} : rx_lv ad (lv ++ List.replicate n none) = rx_lv ad lv := by
  have key : ∀ (l : List (Option Value)) (i : Nat), rx_lvF ad i (l ++ List.replicate n none) = rx_lvF ad i l := by
    intro l
    induction l with
    | nil =>
      intro i
      have : ∀ (n i : Nat), rx_lvF ad i (List.replicate n none) = [] := by
        intro n
        induction n with
        | zero => intro i; rfl
        | succ n ih => intro i; rw [List.replicate_succ, rx_lvF]; exact ih (i + 1)
      simpa [rx_lvF] using this n i
    | cons a l ih =>
      intro i
      cases a with
      | none => simp [rx_lvF, ih]
      | some v => simp [rx_lvF, ih]
  exact key lv 0

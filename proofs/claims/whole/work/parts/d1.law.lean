/-! the law: from inside of its loop on -/
abbrev lw_Γ : Type := rx_Gh × rx_Gh × (Nat × ClassId) × (Nat × Nat × (Nat → Int32))
def lw_A0 (s : State) : Nat → Prop := fun q => s.heap.size ≤ q
/-- where the cells of both sides and the row 'out' lie -/
def lw_D (Γ : lw_Γ) (z : Nat) : Prop := rx_inj wC Γ.1 ∧ rx_inj wM Γ.2.1 ∧ (∀ i, i < wC.1 → z ≤ Γ.1.2.2.1 i ∧ Γ.1.2.2.1 i < Γ.1.2.2.2.2.2) ∧ (∀ j, j < wM.1 → z ≤ Γ.2.1.2.2.1 j ∧ Γ.2.1.2.2.1 j < Γ.1.2.2.2.2.2) ∧ (z ≤ Γ.2.2.1.1 ∧ Γ.2.2.1.1 < Γ.1.2.2.2.2.2) ∧ (∀ i, i < wC.1 → ∀ j, j < wM.1 → Γ.1.2.2.1 i ≠ Γ.2.1.2.2.1 j) ∧ (∀ i, i < wC.1 → Γ.1.2.2.1 i ≠ Γ.2.2.1.1) ∧ (∀ j, j < wM.1 → Γ.2.1.2.2.1 j ≠ Γ.2.2.1.1) ∧ Γ.2.1.2.2.2.2.2 = Γ.1.2.2.2.2.2 ∧ z ≤ Γ.1.2.2.2.2.2
def lw_C (Γ : lw_Γ) (p : Program) (l : Launch) (s : State) (m : MethodId) (meth : Method) (c : Code) : Prop :=
  (CallFix p m c code 7 s #[.ref Γ.2.2.2.1] rx_gw "GlassRoomLaw" ∧ meth.sig.returnType = ret ∧ meth.locks = false) ∧
  (va_X Γ.2.2.2.1 Γ.2.2.2.2.1 Γ.2.2.2.2.2 s s.heap ∧ Γ.2.2.2.1 < s.heap.size ∧ Γ.2.2.2.2.1 ≤ 3072) ∧
  (l = Γ.1.1 ∧ l = Γ.2.1.1 ∧ Γ.1.1.stackTraces = false) ∧ lw_D Γ s.heap.size ∧
  (va_K Γ.1.2.1 vwCl (rx_ty Γ.1) s ∧ va_K Γ.2.1.2.1 vwCl (rx_ty Γ.2.1) s ∧ va_K Γ.1.2.1 vwCl [(Γ.2.2.1.2, .long)] s) ∧
  (rx_St Γ.1 (lw_A0 s) s s.heap ∧ rx_St Γ.2.1 (lw_A0 s) s s.heap ∧ rx_Rs Γ.1 s ∧ rx_Rs Γ.2.1 s ∧ tx_Z (lw_A0 s) s s.heap)
def lw_H (Γ : lw_Γ) (s : State) (hc hm : rx_Hp) (f : Nat → Int64) (H : Heap) (locs : List Loc) : Prop :=
  va_P Γ.1.2.1 vwCl (rx_wd wC Γ.1 hc) H ∧ va_P Γ.2.1.2.1 vwCl (rx_wd wM Γ.2.1 hm) H ∧ va_P Γ.1.2.1 vwCl (lb_o Γ.2.2.1.1 Γ.2.2.1.2 f) H ∧ Γ.1.2.2.2.2.2 ≤ H.size ∧ va_S (lw_A0 s) s.heap H locs
def lw_l (Γ : lw_Γ) (n : Nat) : List (Nat × Value) := [(0, .ref Γ.2.2.2.1), (1, .ref (Γ.1.2.2.1 0)), (2, .ref (Γ.2.1.2.2.1 0)), (3, .ref Γ.2.2.1.1), (4, .int (zI n))]
/-- from here on, in the law: at pc, behind n ints of the script, these further locals, this stack, these cells -/
def Lw (Γ : lw_Γ) (n : Nat) (pc : Nat) (ex : List (Nat × Value)) (st : List Value) (hc hm : rx_Hp) (f : Nat → Int64) (ce sl : Nat) : Prop :=
  ∀ (p : Program) (l : Launch) (e : Env) (s : State) (m : MethodId) (below : List Frame) (meth : Method) (c : Code) (H : Heap) (locs : List Loc) (ls : Array Slot), lw_C Γ p l s m meth c → lv_has ls 7 (ex ++ lw_l Γ n) → lw_H Γ s hc hm f H locs →
    W p l e room_1 s m #[.ref Γ.2.2.2.1] below meth c H locs ce sl (lw_Z below #[.ref Γ.2.2.2.1] s) (F0 m pc ls st)
section LWL
variable {Γ : lw_Γ} {n pc : Nat} {ex : List (Nat × Value)} {st : List Value} {hc hm : rx_Hp} {f : Nat → Int64} {ce sl : Nat}
theorem lw_AC {s : State} (h : lw_D Γ s.heap.size) : ∀ q, rx_A wC Γ.1 q → lw_A0 s q := by
  obtain ⟨h1, h2, h3, h4, h5, h6, h7, h8, h9, h0⟩ := h
  rintro q (⟨k, hk, rfl⟩ | hq)
  · exact (h3 k hk).1
  · exact Nat.le_trans h0 hq
theorem lw_AM {s : State} (h : lw_D Γ s.heap.size) : ∀ q, rx_A wM Γ.2.1 q → lw_A0 s q := by
  obtain ⟨h1, h2, h3, h4, h5, h6, h7, h8, h9, h0⟩ := h
  rintro q (⟨k, hk, rfl⟩ | hq)
  · exact (h4 k hk).1
  · exact Nat.le_trans h0 (by rw [← h9]; exact hq)
theorem lw_noCM {z : Nat} (h : lw_D Γ z) {j : Nat} (hj : j < wM.1) : ¬ rx_A wC Γ.1 (Γ.2.1.2.2.1 j) := by
  obtain ⟨h1, h2, h3, h4, h5, h6, h7, h8, h9, h0⟩ := h
  rintro (⟨k, hk, e⟩ | hq)
  · exact h6 k hk j hj e.symm
  · exact Nat.not_lt.mpr hq (h4 j hj).2
theorem lw_noMC {z : Nat} (h : lw_D Γ z) {i : Nat} (hi : i < wC.1) : ¬ rx_A wM Γ.2.1 (Γ.1.2.2.1 i) := by
  obtain ⟨h1, h2, h3, h4, h5, h6, h7, h8, h9, h0⟩ := h
  rintro (⟨k, hk, e⟩ | hq)
  · exact h6 i hi k hk e
  · rw [h9] at hq
    exact Nat.not_lt.mpr hq (h3 i hi).2
theorem lw_noCo {z : Nat} (h : lw_D Γ z) : ¬ rx_A wC Γ.1 Γ.2.2.1.1 := by
  obtain ⟨h1, h2, h3, h4, h5, h6, h7, h8, h9, h0⟩ := h
  rintro (⟨k, hk, e⟩ | hq)
  · exact h7 k hk e.symm
  · exact Nat.not_lt.mpr hq h5.2
theorem lw_noMo {z : Nat} (h : lw_D Γ z) : ¬ rx_A wM Γ.2.1 Γ.2.2.1.1 := by
  obtain ⟨h1, h2, h3, h4, h5, h6, h7, h8, h9, h0⟩ := h
  rintro (⟨k, hk, e⟩ | hq)
  · exact h8 k hk e.symm
  · rw [h9] at hq
    exact Nat.not_lt.mpr hq h5.2
theorem lw_wdk {Ω : rx_Om} {G : rx_Gh} {hp : rx_Hp} {D : va_G} {H H1 : Heap} (h : va_P D vwCl (rx_wd Ω G hp) H) (hk : ∀ k, k < Ω.1 → H1[G.2.2.1 k]? = H[G.2.2.1 k]?) : va_P D vwCl (rx_wd Ω G hp) H1 := h.kept fun k q hq => by
  obtain ⟨a1, rfl⟩ := rx_wd_inv hq
  exact hk k a1
theorem lw_wlt {Ω : rx_Om} {G : rx_Gh} {hp : rx_Hp} {D : va_G} {H : Heap} (h : va_P D vwCl (rx_wd Ω G hp) H) {k : Nat} (hk : k < Ω.1) : G.2.2.1 k < H.size := (h k _ (rx_wd_get hk)).lt
theorem lw_pre {Ω : rx_Om} {G : rx_Gh} {hp : rx_Hp} {s : State} {H : Heap} {locs : List Loc} (hsz : G.2.2.2.2.2 ≤ H.size) (hi : rx_inj Ω G) (hP : va_P G.2.1 vwCl (rx_wd Ω G hp) H) (hK : va_K G.2.1 vwCl (rx_ty G) s) (hSt : rx_St G (lw_A0 s) s s.heap) (hRs : rx_Rs G s) (hS : va_S (lw_A0 s) s.heap H locs) (hA : ∀ q, rx_A Ω G q → lw_A0 s q) : ∀ U : State, U.heap = H → s.WarmedH U.vm → rx_B Ω G hp U := by
  intro U hU hW
  refine ⟨by rw [hU]; exact hsz, hi, by rw [hU]; exact hP, va_K.moved hW.alike hK, ?_, rx_Rs.warm hW hRs⟩
  rw [hU]
  exact (rx_St.moved hW.alike (hSt.kept hS.2.1)).narrow hA
theorem lw_at {ls : Array Slot} {q : Nat × Value} (hl : lv_has ls 7 (ex ++ lw_l Γ n)) {i : Nat} (h : (lw_l Γ n)[i]? = some q) : ls[q.1]? = some (.val q.2) := hl.2.2 q (List.mem_append_right _ (List.mem_of_getElem? h))
/-- the two sides as receivers -/
theorem l_c (hd : decode code pc = .ok (.aload_n 1, 1)) (k : Lw Γ n (pc + 1) ex (.ref (Γ.1.2.2.1 0) :: st) hc hm f ce sl) : Lw Γ n pc ex st hc hm f ce sl :=
  fun p l e s m below meth c H locs ls C hl hH => lv_aload_n (i := 1) C.1.1.1 C.1.1.2.1 hd rfl (lw_at hl (i := 1) rfl) (k p l e s m below meth c H locs ls C hl hH)
theorem l_m (hd : decode code pc = .ok (.aload_n 2, 1)) (k : Lw Γ n (pc + 1) ex (.ref (Γ.2.1.2.2.1 0) :: st) hc hm f ce sl) : Lw Γ n pc ex st hc hm f ce sl :=
  fun p l e s m below meth c H locs ls C hl hH => lv_aload_n (i := 2) C.1.1.1 C.1.1.2.1 hd rfl (lw_at hl (i := 2) rfl) (k p l e s m below meth c H locs ls C hl hH)
theorem l_o (hd : decode code pc = .ok (.aload_n 3, 1)) (k : Lw Γ n (pc + 1) ex (.ref Γ.2.2.1.1 :: st) hc hm f ce sl) : Lw Γ n pc ex st hc hm f ce sl :=
  fun p l e s m below meth c H locs ls C hl hH => lv_aload_n (i := 3) C.1.1.1 C.1.1.2.1 hd rfl (lw_at hl (i := 3) rfl) (k p l e s m below meth c H locs ls C hl hH)
theorem lw_noS {s : State} {b : Nat} (h : b < s.heap.size) : ¬ lw_A0 s b := fun z => Nat.not_lt.mpr z h
/-- script[i + j] -/
theorem l_arg (j : Nat) {z : Int} (hj : j < 6) (hn : n + 6 ≤ Γ.2.2.2.2.1) (d0 : decode code pc = .ok (.aload_n 0, 1)) (d1 : decode code (pc + 1) = .ok (.iload 4, 2)) (d3 : decode code (pc + 3) = .ok (.iconst z, 1)) (d4 : decode code (pc + 4) = .ok (.iadd, 1)) (d5 : decode code (pc + 5) = .ok (.iaload, 1)) (hz : z = (j : Int))
    (k : Lw Γ n (pc + 6) ex (.int (Γ.2.2.2.2.2 (n + j)) :: st) hc hm f ce sl) : Lw Γ n pc ex st hc hm f ce sl := by
  intro p l e s m below meth c H locs ls C hl hH
  have h3 := C.2.1.2.2
  refine lv_aload_n (i := 0) C.1.1.1 C.1.1.2.1 d0 rfl (lw_at hl (i := 0) rfl) ?_
  refine lv_iload C.1.1.1 C.1.1.2.1 d1 (lw_at hl (i := 4) rfl) ?_
  refine lv_iconst (v := zI (j : Int)) C.1.1.1 C.1.1.2.1 d3 (by rw [hz]; rfl) ?_
  refine lv_iadd C.1.1.1 C.1.1.2.1 d4 ?_
  have e1 : zI (n : Int) + zI (j : Int) = zI ((n + j : Nat) : Int) := by rw [zI_add, Int.natCast_add]
  rw [e1]
  refine va_sld C.1.1.1 C.1.1.2.1 C.2.1.1 C.2.1.2.1 (lw_noS C.2.1.2.1) hH.2.2.2.2 (vp_N (by omega) (by omega)) d5 ?_
  rw [zI_cN (by omega)]
  exact k p l e s m below meth c H locs ls C hl hH
/-- the class is asked -/
theorem l_callC {idx d' nn : Nat} {y : rx_Mi} {v : Int32} {P : rx_Hp → Prop} (As : List Value) (st : List Value) {st0 : List Value} (hd : decode code pc = .ok (.invokevirtual idx, 3)) (hC : rx_CV "GlassRoomLaw" idx y nn) (hE : Ev wC Γ.1 d' y (.ref 0 :: As) hc (rI fun x h => x = v ∧ P h)) (hn : As.length = nn) (hid : As.map (rx_tr Γ.1.2.2.1) = As) (hd' : d' ≤ 100) (hcl : (vwCl[11]?).map (fun r => r.1) = some y.1.cls) (hw : (st.map fun v => v.category).sum ≤ 8) (hcs : ce ≤ 601024 ∧ sl ≤ 7293034)
    (kk : ∀ h', P h' → Lw Γ n (pc + 3) ex (.int v :: st) h' hm f ce sl) (hst : As.reverse ++ .ref (Γ.1.2.2.1 0) :: st = st0) : Lw Γ n pc ex st0 hc hm f ce sl := by
  intro p l e s m below meth c H locs ls C hl hH
  obtain ⟨c1, c2, c3, c4, c5, c6⟩ := C
  have hCC : lw_C Γ p l s m meth c := ⟨c1, c2, c3, c4, c5, c6⟩
  obtain ⟨h1, h2, h3, h4, h5⟩ := hH
  refine lw_call (Ω := wC) (G := Γ.1) (A0 := lw_A0 s) (ci := 11) (d' := d') c3.1 c1.1 hd hC hn hid ⟨?_, ?_, Nat.zero_le _⟩ (show 0 < 50 from by decide) rfl hcl hw hl.1 hE h1 c5.1 (lw_pre h4 c4.1 h1 c5.1 c6.1 c6.2.2.1 h5 (lw_AC c4)) h5 (lw_AC c4) hcs (fun x hp' H1 locs1 hF hP1 hk hz hS1 => ?_) hst
  · show d' + 8 + 1 ≤ 2048
    omega
  · show 8 + (45 + 11) + (64 * d' + 400) ≤ 84000
    omega
  · obtain ⟨rfl, hF⟩ := hF
    exact kk hp' hF p l e s m below meth c H1 locs1 ls hCC hl ⟨hP1, lw_wdk h2 (fun j hj => hk _ (lw_wlt h2 hj) (lw_noCM c4 hj)), lb_keep h3 (hk _ (lb_lt h3) (lw_noCo c4)), Nat.le_trans h4 hz, hS1⟩
/-- the model is asked -/
theorem l_callM {idx d' nn : Nat} {y : rx_Mi} {v : Int32} {P : rx_Hp → Prop} (As : List Value) (st : List Value) {st0 : List Value} (hd : decode code pc = .ok (.invokevirtual idx, 3)) (hC : rx_CV "GlassRoomLaw" idx y nn) (hE : Ev wM Γ.2.1 d' y (.ref 0 :: As) hm (rI fun x h => x = v ∧ P h)) (hn : As.length = nn) (hid : As.map (rx_tr Γ.2.1.2.2.1) = As) (hd' : d' ≤ 100) (hcl : (vwCl[12]?).map (fun r => r.1) = some y.1.cls) (hw : (st.map fun v => v.category).sum ≤ 8) (hcs : ce ≤ 601024 ∧ sl ≤ 7293034)
    (kk : ∀ h', P h' → Lw Γ n (pc + 3) ex (.int v :: st) hc h' f ce sl) (hst : As.reverse ++ .ref (Γ.2.1.2.2.1 0) :: st = st0) : Lw Γ n pc ex st0 hc hm f ce sl := by
  intro p l e s m below meth c H locs ls C hl hH
  obtain ⟨c1, c2, c3, c4, c5, c6⟩ := C
  have hCC : lw_C Γ p l s m meth c := ⟨c1, c2, c3, c4, c5, c6⟩
  obtain ⟨h1, h2, h3, h4, h5⟩ := hH
  have h4' : Γ.2.1.2.2.2.2.2 ≤ H.size := by rw [c4.2.2.2.2.2.2.2.2.1]; exact h4
  refine lw_call (Ω := wM) (G := Γ.2.1) (A0 := lw_A0 s) (ci := 12) (d' := d') c3.2.1 c1.1 hd hC hn hid ⟨?_, ?_, Nat.zero_le _⟩ (show 0 < 24 from by decide) rfl hcl hw hl.1 hE h2 c5.2.1 (lw_pre h4' c4.2.1 h2 c5.2.1 c6.2.1 c6.2.2.2.1 h5 (lw_AM c4)) h5 (lw_AM c4) hcs (fun x hp' H1 locs1 hF hP1 hk hz hS1 => ?_) hst
  · show d' + 8 + 1 ≤ 2048
    omega
  · show 8 + (45 + 11) + (64 * d' + 400) ≤ 84000
    omega
  · obtain ⟨rfl, hF⟩ := hF
    exact kk hp' hF p l e s m below meth c H1 locs1 ls hCC hl ⟨lw_wdk h1 (fun j hj => hk _ (lw_wlt h1 hj) (lw_noMC c4 hj)), hP1, lb_keep h3 (hk _ (lb_lt h3) (lw_noMo c4)), Nat.le_trans h4 hz, hS1⟩
/-- both have answered alike -/
theorem l_same {v : Int32} {off : Int} (hd : decode code pc = .ok (.if_icmp .eq off, 3)) (ht : (pc : Int) + off = ((1563 : Nat) : Int)) (k : Lw Γ n 1563 ex st hc hm f ce sl) : Lw Γ n pc ex (.int v :: .int v :: st) hc hm f ce sl :=
  fun p l e s m below meth c H locs ls C hl hH => lv_icmp_eq C.1.1.1 C.1.1.2.1 hd ht (fun _ => k p l e s m below meth c H locs ls C hl hH) (fun z => absurd rfl z)
/-- what is owed behind a case -/
def LK (Γ : lw_Γ) (n ce sl : Nat) : Prop := ∀ (S : Gs) (hc hm : rx_Hp) (f : Nat → Int64) (ce' sl' : Nat) (ex : List (Nat × Value)), ROk S → RC S hc → RM S hm → ce' ≤ ce + 1 → sl' ≤ sl + 6 → Lw Γ n 1563 ex [] hc hm f ce' sl'
end LWL

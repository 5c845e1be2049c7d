/-! what the Statement gives of the start -/
theorem nz_L_8 : rc_N "GlassRoomLaw" 8 11 17 [.null, .null, .null, .null, .null, .null, .null, .null, .null, .null, .null, .null, .null, .null, .int 0, .int 0, .int 0] := ⟨RX11, TX11, tyX11, rfl, rx_T11, tyX11_ok, (rx_s1 25 rfl rfl), (rx_s1 26 rfl rfl), (rx_s1 1 rfl rfl), by decide⟩
theorem nz_L_16 : rc_N "GlassRoomLaw" 16 12 45 [.int 0, .null, .int 0, .int 0, .int 0, .int 0, .null, .null, .null, .null, .null, .null, .null, .int 0, .int 0, .null, .null, .null, .null, .int 0, .null, .null, .null, .int 0, .int 0, .int 0, .int 0, .int 0, .int 0, .null, .int 0, .null, .null, .null, .int 0, .int 0, .int 0, .null, .int 0, .int 0, .null, .null, .int 0, .null, .int 0] := ⟨RX12, TX12, tyX12, rfl, rx_T12, tyX12_ok, (rx_s5 93 rfl rfl), (rx_s5 94 rfl rfl), (rx_s1 13 rfl rfl), by decide⟩
theorem cz_L_15 : rc_C "GlassRoomLaw" 15 q_GR_init 0 := ⟨⟨Or.inl (rx_s1 27 rfl rfl), (rx_s1 28 rfl rfl), rfl, rfl⟩, (rx_s1 1 rfl rfl), q_GR_init_k, ⟨by decide, by decide, by decide +kernel⟩, by decide⟩
theorem cz_L_18 : rc_C "GlassRoomLaw" 18 q_M_init 0 := ⟨⟨Or.inl (rx_s5 95 rfl rfl), (rx_s5 96 rfl rfl), rfl, rfl⟩, (rx_s1 13 rfl rfl), q_M_init_k, ⟨by decide, by decide, by decide +kernel⟩, by decide⟩
section STA
variable {s : State} {args : Array Value}
theorem st_D (hts : ∀ w ∈ rx_gw, w.before args s = true) : ∃ D : va_G, ∀ (c : Nat) (q : vw_C), vwCl[c]? = some q → u_Kn s q.1 q.2.1 q.2.2 (D.1 c) (D.2 c) := by
  have key : ∀ q ∈ vwCl, ∃ (cC : ClassId) (iS : Nat → Nat), u_Kn s q.1 q.2.1 q.2.2 cC iS := by
    intro q hq
    simp only [vwCl, List.mem_cons, List.not_mem_nil, or_false] at hq
    rcases hq with rfl | rfl | rfl | rfl | rfl | rfl | rfl | rfl | rfl | rfl | rfl | rfl | rfl
    · exact u_known hts rx_T0 (hts _ (rx_s1 186 rfl rfl))
    · exact u_known hts rx_T1 (hts _ (rx_s2 41 rfl rfl))
    · exact u_known hts rx_T2 (hts _ (rx_s1 203 rfl rfl))
    · exact u_known hts rx_T3 (hts _ (rx_s1 55 rfl rfl))
    · exact u_known hts rx_T4 (hts _ (rx_s1 129 rfl rfl))
    · exact u_known hts rx_T5 (hts _ (rx_s2 62 rfl rfl))
    · exact u_known hts rx_T6 (hts _ (rx_s1 159 rfl rfl))
    · exact u_known hts rx_T7 (hts _ (rx_s1 153 rfl rfl))
    · exact u_known hts rx_T8 (hts _ (rx_s2 80 rfl rfl))
    · exact u_known hts rx_T9 (hts _ (rx_s2 7 rfl rfl))
    · exact u_known hts rx_T10 (hts _ (rx_s1 34 rfl rfl))
    · exact u_known hts rx_T11 (hts _ (rx_s1 26 rfl rfl))
    · exact u_known hts rx_T12 (hts _ (rx_s5 94 rfl rfl))
  have h : ∀ c : Nat, ∃ x : ClassId × (Nat → Nat), ∀ q, vwCl[c]? = some q → u_Kn s q.1 q.2.1 q.2.2 x.1 x.2 := by
    intro c
    cases hc : vwCl[c]? with
    | none => exact ⟨(0, fun _ => 0), fun q h => by cases h⟩
    | some q =>
      obtain ⟨a, b, h⟩ := key q (List.mem_of_getElem? hc)
      exact ⟨(a, b), fun q' h' => by cases h'; exact h⟩
  obtain ⟨F, hF⟩ := Classical.axiomOfChoice h
  exact ⟨(fun c => (F c).1, fun c => (F c).2), fun c q hq => hF c q hq⟩
theorem st_I (hts : ∀ w ∈ rx_gw, w.before args s = true) : ∃ cI : ClassId, ArrOfT s cI .int ∧ va_RA s cI .int := by
  obtain ⟨cA, kA, comp, h1, h2, h3⟩ := Cond.arrayClass_spec (hts (.arrayClass .int) (rx_s1 53 rfl rfl))
  exact ⟨cA, fun n z => ⟨fun k h => (by cases h), kA, h2, comp, h3⟩, h1⟩
theorem rx_St.ad {G G' : rx_Gh} {A : Nat → Prop} {U : State} {H : Heap} (e : ∀ k, 1000 ≤ k → G'.2.2.1 k = G.2.2.1 k) (h : rx_St G A U H) : rx_St G' A U H := by
  obtain ⟨⟨a1, a2, a3, a4⟩, ⟨b1, b2, b3⟩, c1⟩ := h
  have e0 := e 1000 (by decide)
  have e1 := e 1001 (by decide)
  have e2 := e 1002 (by decide)
  refine ⟨⟨by rw [e0]; exact a1, by rw [e1]; exact a2, by rw [e2]; exact a3, a4⟩, ⟨by rw [e0]; exact b1, by rw [e1]; exact b2, by rw [e2]; exact b3⟩, ?_⟩
  rw [show (fun i => G'.2.2.1 (2000 + i)) = (fun i => G.2.2.1 (2000 + i)) from funext fun i => e _ (by omega), show (fun i => G'.2.2.1 (3000 + i)) = (fun i => G.2.2.1 (3000 + i)) from funext fun i => e _ (by omega)]
  exact c1
theorem rx_Rs.ad {G G' : rx_Gh} {U : State} (e : ∀ k, 1000 ≤ k → G'.2.2.1 k = G.2.2.1 k) (h : rx_Rs G U) : rx_Rs G' U := by
  obtain ⟨⟨a1, a2, a3⟩, b⟩ := h
  exact ⟨⟨by rw [e 2000 (by decide)]; exact a1, by rw [e 2001 (by decide)]; exact a2, by rw [e 2002 (by decide)]; exact a3⟩, b⟩
theorem st_Sc {N : Nat} {len : List Nat} {byt : List (List Int32)} {a b a' b' : Nat → Nat} {A : Nat → Prop} {U : State} {H : Heap} (h : vk_S N len byt a b A U H) (e1 : ∀ i, i < N → a' i = a i) (e2 : ∀ i, i < N → b' i = b i) : vk_S N len byt a' b' A U H :=
  ⟨fun i hi => by rw [e1 i hi, e2 i hi]; exact h.1 i hi, fun i j hi hj e => h.2 i j hi hj (by rw [← e1 i hi, ← e1 j hj]; exact e)⟩
def st_tm : Nat → Term := fun i => if i = 0 then .string "GlassRoom$HallReader" 91 else .string "GlassRoom$LightReader" 67
def st_ad (tU tL tM t2 : Nat) (aK aV : Nat → Nat) : Nat → Nat := fun k => if k = 1000 then tU else if k = 1001 then tL else if k = 1002 then tM else if k = 2002 then t2 else if 3000 ≤ k then aV (k - 3000) else aK (k - 2000)
set_option maxRecDepth 20000 in
theorem st_St (htb : ∀ w ∈ lw_tbl, w.before args s = true) (hgv : (Jvm.Cond.and given_1 narrow_1).before args s = true) : ∃ ad : Nat → Nat, ∀ (l : Launch) (D : va_G) (cI cL : ClassId) (sz : Nat), rx_St (l, D, ad, cI, cL, sz) (lw_A0 s) s s.heap ∧ rx_Rs (l, D, ad, cI, cL, sz) s := by
  have hs := flat_of_before _ hgv
  have hA : ∀ a : Nat, a < s.heap.size → ¬ lw_A0 s a := fun a ha => lw_noS ha
  obtain ⟨tU, eU, TU⟩ := va_Tof (args := args) (s := s) (tm := .static "GlassRoom$HallReader" "USUAL" "[I") (ty := .int) (N := 7) (f := fun j => .int (rx_sU.getD j 0)) (A := lw_A0 s) (by decide) (hs _ (by decide +kernel)) (va_eqt (hs _ (by decide +kernel))) (fun j hj => by
    match j, hj with
    | 0, _ => exact va_eqt (hs _ (by decide +kernel))
    | 1, _ => exact va_eqt (hs _ (by decide +kernel))
    | 2, _ => exact va_eqt (hs _ (by decide +kernel))
    | 3, _ => exact va_eqt (hs _ (by decide +kernel))
    | 4, _ => exact va_eqt (hs _ (by decide +kernel))
    | 5, _ => exact va_eqt (hs _ (by decide +kernel))
    | 6, _ => exact va_eqt (hs _ (by decide +kernel))
    | j + 7, hj => omega) hA
  obtain ⟨tL, eL, TL⟩ := va_Tof (args := args) (s := s) (tm := .static "GlassRoom$HallReader" "LEAST" "[I") (ty := .int) (N := 7) (f := fun j => .int (rx_sL.getD j 0)) (A := lw_A0 s) (by decide) (hs _ (by decide +kernel)) (va_eqt (hs _ (by decide +kernel))) (fun j hj => by
    match j, hj with
    | 0, _ => exact va_eqt (hs _ (by decide +kernel))
    | 1, _ => exact va_eqt (hs _ (by decide +kernel))
    | 2, _ => exact va_eqt (hs _ (by decide +kernel))
    | 3, _ => exact va_eqt (hs _ (by decide +kernel))
    | 4, _ => exact va_eqt (hs _ (by decide +kernel))
    | 5, _ => exact va_eqt (hs _ (by decide +kernel))
    | 6, _ => exact va_eqt (hs _ (by decide +kernel))
    | j + 7, hj => omega) hA
  obtain ⟨tM, eM, TM⟩ := va_Tof (args := args) (s := s) (tm := .static "GlassRoom$HallReader" "MOST" "[I") (ty := .int) (N := 7) (f := fun j => .int (rx_sM.getD j 0)) (A := lw_A0 s) (by decide) (hs _ (by decide +kernel)) (va_eqt (hs _ (by decide +kernel))) (fun j hj => by
    match j, hj with
    | 0, _ => exact va_eqt (hs _ (by decide +kernel))
    | 1, _ => exact va_eqt (hs _ (by decide +kernel))
    | 2, _ => exact va_eqt (hs _ (by decide +kernel))
    | 3, _ => exact va_eqt (hs _ (by decide +kernel))
    | 4, _ => exact va_eqt (hs _ (by decide +kernel))
    | 5, _ => exact va_eqt (hs _ (by decide +kernel))
    | 6, _ => exact va_eqt (hs _ (by decide +kernel))
    | j + 7, hj => omega) hA
  have hini : (Cond.initialized "GlassRoom$HallReader").before args s = true := htb _ (by decide +kernel)
  have ZU := va_Zof (A := lw_A0 s) (htb (.laysStatic "GlassRoom$HallReader" "USUAL" "[I") (by decide +kernel)) hini eU hA
  have ZL := va_Zof (A := lw_A0 s) (htb (.laysStatic "GlassRoom$HallReader" "LEAST" "[I") (by decide +kernel)) hini eL hA
  have ZM := va_Zof (A := lw_A0 s) (htb (.laysStatic "GlassRoom$HallReader" "MOST" "[I") (by decide +kernel)) hini eM hA
  have ZC := va_Zof (A := lw_A0 s) (htb (.laysStatic "java/lang/String" "COMPACT_STRINGS" "Z") (by decide +kernel)) (htb (.initialized "java/lang/String") (by decide +kernel)) (va_eqi (z := 1) (hs _ (by decide +kernel))) hA
  obtain ⟨aK, aV, hS, hK⟩ := vk_Sof (args := args) (s := s) (N := 2) (tm := st_tm) (len := [7, 6]) (byt := rx_byt) (A := lw_A0 s)
    (fun i hi => by
      match i, hi with
      | 0, _ => decide
      | 1, _ => decide
      | i + 2, hi => omega)
    (fun i hi => by
      match i, hi with
      | 0, _ => exact hs _ (by decide +kernel)
      | 1, _ => exact hs _ (by decide +kernel)
      | i + 2, hi => omega)
    (fun i hi => by
      match i, hi with
      | 0, _ => exact hs _ (by decide +kernel)
      | 1, _ => exact hs _ (by decide +kernel)
      | i + 2, hi => omega)
    (fun i hi => by
      match i, hi with
      | 0, _ => exact hs _ (by decide +kernel)
      | 1, _ => exact hs _ (by decide +kernel)
      | i + 2, hi => omega)
    (fun i hi => by
      match i, hi with
      | 0, _ => exact hs _ (by decide +kernel)
      | 1, _ => exact hs _ (by decide +kernel)
      | i + 2, hi => omega)
    (fun i hi j hj => by
      match i, hi, j, hj with
      | 0, _, 0, _ => exact hs _ (by decide +kernel)
      | 0, _, 1, _ => exact hs _ (by decide +kernel)
      | 0, _, 2, _ => exact hs _ (by decide +kernel)
      | 0, _, 3, _ => exact hs _ (by decide +kernel)
      | 0, _, 4, _ => exact hs _ (by decide +kernel)
      | 0, _, 5, _ => exact hs _ (by decide +kernel)
      | 0, _, 6, _ => exact hs _ (by decide +kernel)
      | 0, _, j + 7, hj => exact absurd hj (by show ¬ j + 7 < 7; omega)
      | 1, _, 0, _ => exact hs _ (by decide +kernel)
      | 1, _, 1, _ => exact hs _ (by decide +kernel)
      | 1, _, 2, _ => exact hs _ (by decide +kernel)
      | 1, _, 3, _ => exact hs _ (by decide +kernel)
      | 1, _, 4, _ => exact hs _ (by decide +kernel)
      | 1, _, 5, _ => exact hs _ (by decide +kernel)
      | 1, _, j + 6, hj => exact absurd hj (by show ¬ j + 6 < 6; omega)
      | i + 2, hi, _, _ => omega)
    (fun i j hi hj hij => by
      match i, j, hi, hj with
      | 0, 1, _, _ => exact Or.inl (hs _ (by decide +kernel))
      | 1, 0, _, _ => exact Or.inr (hs _ (by decide +kernel))
      | 0, 0, _, _ => exact absurd rfl hij
      | 1, 1, _, _ => exact absurd rfl hij
      | i + 2, _, hi, _ => omega
      | _, j + 2, _, hj => omega) hA
  obtain ⟨t2, c2, cA2, kA2, e2, -⟩ := Cond.exactly_spec (args := args) (first := s) (o := none) (s := s) (idx := []) (t := .string "GlassRoom" 150) (cls := "java/lang/String") (hs _ (by decide +kernel))
  refine ⟨st_ad tU tL tM t2 aK aV, fun l D cI cL sz => ⟨⟨⟨ZU, ZL, ZM, ZC⟩, ⟨TU, TL, TM⟩, ?_⟩, ⟨?_, ?_, ?_⟩, ?_, ?_, ?_⟩⟩
  · refine st_Sc hS (fun i hi => ?_) (fun i hi => ?_)
    · match i, hi with
      | 0, _ => rfl
      | 1, _ => rfl
      | i + 2, hi => omega
    · match i, hi with
      | 0, _ => rfl
      | 1, _ => rfl
      | i + 2, hi => omega
  · exact vk_R.of (A := args) (htb _ (by decide +kernel)) (hK 0 (by decide))
  · exact vk_R.of (A := args) (htb _ (by decide +kernel)) (hK 1 (by decide))
  · exact vk_R.of (A := args) (htb _ (by decide +kernel)) e2
  · exact va_Nw.of rfl (htb rx_N1 (by decide +kernel))
  · exact va_Nw.of rfl (htb rx_N2 (by decide +kernel))
  · exact va_Nw.of rfl (htb rx_N3 (by decide +kernel))
set_option maxRecDepth 20000 in
theorem st_O (htb : ∀ w ∈ lw_tbl, w.before args s = true) : rc_O s := by
  refine ⟨va_AO.of (A := args) (htb _ (by decide +kernel)), fun w hw => va_Nw.of (A := args) ?_ (htb w ?_)⟩
  · exact (show ∀ w ∈ rc_NL, w.onTables = true from by decide +kernel) w hw
  · exact (show ∀ w ∈ rc_NL, w ∈ lw_tbl from by decide +kernel) w hw
set_option maxRecDepth 20000 in
theorem st_Z (htb : ∀ w ∈ lw_tbl, w.before args s = true) (hgv : (Jvm.Cond.and given_1 narrow_1).before args s = true) : tx_Z (lw_A0 s) s s.heap := by
  have hs := flat_of_before _ hgv
  have hA : ∀ a : Nat, a < s.heap.size → ¬ lw_A0 s a := fun a ha => lw_noS ha
  have hini : (Cond.initialized Bundle.tN).before args s = true := htb _ (by decide +kernel)
  refine ⟨vx_Zqof (htb _ (by decide +kernel)) hini (hs _ (by decide +kernel)) hA, vx_Zqof (htb _ (by decide +kernel)) hini (hs _ (by decide +kernel)) hA, fun w hw => va_Nw.of (A := args) (tx_N_t w hw) (htb w ?_)⟩
  exact (show ∀ w ∈ tx_N, w ∈ lw_tbl from by decide +kernel) w hw
end STA

/-! the law from its entry on -/
theorem rx_wd_len {Ω : rx_Om} {G : rx_Gh} {hp : rx_Hp} : (rx_wd Ω G hp).length = Ω.1 := by simp [rx_wd]
section LAY
variable {Γ : lw_Γ} {s : State} {hc hm : rx_Hp} {x : va_E} {H : Heap} {D : va_G}
theorem ly_C {i : Nat} (hi : i < wC.1) : (rx_wd wC Γ.1 hc ++ rx_wd wM Γ.2.1 hm ++ [(Γ.2.2.1.1, x)])[i]? = some (Γ.1.2.2.1 i, rx_cell wC Γ.1 hc i) := by
  rw [List.getElem?_append_left (by rw [List.length_append, rx_wd_len, rx_wd_len]; omega), List.getElem?_append_left (by rw [rx_wd_len]; exact hi), rx_wd_get hi]
theorem ly_M {j : Nat} (hj : j < wM.1) : (rx_wd wC Γ.1 hc ++ rx_wd wM Γ.2.1 hm ++ [(Γ.2.2.1.1, x)])[wC.1 + j]? = some (Γ.2.1.2.2.1 j, rx_cell wM Γ.2.1 hm j) := by
  rw [List.getElem?_append_left (by rw [List.length_append, rx_wd_len, rx_wd_len]; omega), List.getElem?_append_right (by rw [rx_wd_len]; omega), rx_wd_len, Nat.add_sub_cancel_left, rx_wd_get hj]
theorem ly_o : (rx_wd wC Γ.1 hc ++ rx_wd wM Γ.2.1 hm ++ [(Γ.2.2.1.1, x)])[wC.1 + wM.1]? = some (Γ.2.2.1.1, x) := by
  rw [List.getElem?_append_right (by rw [List.length_append, rx_wd_len, rx_wd_len]; omega), List.length_append, rx_wd_len, rx_wd_len, Nat.sub_self]
  rfl
theorem ly_D (hD : va_D (lw_A0 s) (rx_wd wC Γ.1 hc ++ rx_wd wM Γ.2.1 hm ++ [(Γ.2.2.1.1, x)])) (hP : va_P D vwCl (rx_wd wC Γ.1 hc ++ rx_wd wM Γ.2.1 hm ++ [(Γ.2.2.1.1, x)]) H) (h1 : Γ.1.2.2.2.2.2 = H.size) (h2 : Γ.2.1.2.2.2.2.2 = H.size) (hs : s.heap.size ≤ H.size) : lw_D Γ s.heap.size := by
  refine ⟨fun i j hi hj e => hD.1 i j _ _ (ly_C hi) (ly_C hj) e, fun i j hi hj e => ?_, fun i hi => ⟨hD.2 i _ (ly_C hi), ?_⟩, fun j hj => ⟨hD.2 _ _ (ly_M hj), ?_⟩, ⟨hD.2 _ _ ly_o, ?_⟩, fun i hi j hj e => ?_, fun i hi e => ?_, fun j hj e => ?_, h2.trans h1.symm, by rw [h1]; exact hs⟩
  · have := hD.1 _ _ _ _ (ly_M hi) (ly_M hj) e
    omega
  · rw [h1]
    exact (hP i _ (ly_C hi)).lt
  · rw [h1]
    exact (hP _ _ (ly_M hj)).lt
  · rw [h1]
    exact (hP _ _ ly_o).lt
  · have := hD.1 _ _ _ _ (ly_C hi) (ly_M hj) e
    omega
  · have := hD.1 _ _ _ _ (ly_C hi) ly_o e
    omega
  · have := hD.1 _ _ _ _ (ly_M hj) ly_o e
    omega
theorem ly_P (hP : va_P D vwCl (rx_wd wC Γ.1 hc ++ rx_wd wM Γ.2.1 hm ++ [(Γ.2.2.1.1, x)]) H) : va_P D vwCl (rx_wd wC Γ.1 hc) H ∧ va_P D vwCl (rx_wd wM Γ.2.1 hm) H ∧ va_P D vwCl [(Γ.2.2.1.1, x)] H := by
  refine ⟨fun k q hq => ?_, fun k q hq => ?_, fun k q hq => ?_⟩
  · obtain ⟨a1, rfl⟩ := rx_wd_inv hq
    exact hP k _ (ly_C a1)
  · obtain ⟨a1, rfl⟩ := rx_wd_inv hq
    exact hP _ _ (ly_M a1)
  · have h1 : k < 1 := (List.getElem?_eq_some_iff.mp hq).1
    rw [show k = 0 by omega] at hq
    cases hq
    exact hP _ _ ly_o
end LAY
theorem fl_tr {l : Launch} (h : l.flags = flags0) : l.stackTraces = false := by
  unfold Launch.stackTraces
  rw [h]
  decide +kernel
theorem adL_hi {l : List Nat} {ad : Nat → Nat} : ∀ k, 1000 ≤ k → adL l ad k = ad k := fun k hk => if_neg (by omega)
section WST
variable {p : Program} {e : Env} {s : State} {m : MethodId} {below : List Frame} {meth : Method} {c : Code} {l : Launch} {b L : Nat} {xs : Nat → Int32}
/-- both sides and the row are made: the loop -/
theorem ws_loop {D : va_G} {ad : Nat → Nat} {cI cA cO : ClassId} {lC lM : List Nat} {o : Nat} {H : Heap} {locs : List Loc} {ls : Array Slot} {ce sl : Nat} (hflags : l.flags = flags0) (hL : L ≤ 3072) (C0 : lw_At p s m meth c b L xs) (fix : CallFix p m c code 7 s #[.ref b] rx_gw "GlassRoomLaw")
    (hst : ∀ (l : Launch) (D : va_G) (cI cL : ClassId) (sz : Nat), rx_St (l, D, ad, cI, cL, sz) (lw_A0 s) s s.heap ∧ rx_Rs (l, D, ad, cI, cL, sz) s) (hZ : tx_Z (lw_A0 s) s s.heap)
    (hK : va_K D vwCl ([(cI, .int), (cA, .object "GlassRoom$Light")] ++ [(cO, .long)]) s)
    (hP : va_P D vwCl (rx_wd wC (l, D, adL lC ad, cI, cA, H.size) hC0 ++ rx_wd wM (l, D, adL lM ad, cI, cA, H.size) hM0 ++ [(o, .inl (cO, 1, .inr (.inl fun _ => 0)))]) H)
    (hD : va_D (lw_A0 s) (rx_wd wC (l, D, adL lC ad, cI, cA, H.size) hC0 ++ rx_wd wM (l, D, adL lM ad, cI, cA, H.size) hM0 ++ [(o, .inl (cO, 1, .inr (.inl fun _ => 0)))])) (hS : va_S (lw_A0 s) s.heap H locs)
    (hl : lv_has ls 7 [(4, .int (zI ((0 : Nat) : Int))), (3, .ref o), (2, .ref (lM.getD 0 0)), (1, .ref (lC.getD 0 0)), (0, .ref b)]) (h1 : ce ≤ 200) (h2 : sl ≤ 20000) : W p l e room_1 s m #[.ref b] below meth c H locs ce sl (lw_Z below #[.ref b] s) (F0 m 23 ls []) := by
  obtain ⟨x1, x2, x3, x4, x5, x6, x7, x8, x9, x10⟩ := C0
  obtain ⟨pC, pM, pO⟩ := ly_P (Γ := ((l, D, adL lC ad, cI, cA, H.size), (l, D, adL lM ad, cI, cA, H.size), (o, cO), (b, L, xs))) hP
  have hK2 : va_K D vwCl [(cI, .int), (cA, .object "GlassRoom$Light")] s := hK.sub [0, 1] rfl
  have hK3 : va_K D vwCl [(cO, .long)] s := hK.sub [2] rfl
  refine l_loop (Γ := ((l, D, adL lC ad, cI, cA, H.size), (l, D, adL lM ad, cI, cA, H.size), (o, cO), (b, L, xs))) 3073 0 S0 hC0 hM0 (fun _ => 0) ce sl (by omega) (by omega) S0_ok S0_c S0_m h1 h2 p l e s m below meth c H locs ls ⟨⟨fix, x3, x9⟩, ⟨x7, x8, hL⟩, ⟨rfl, rfl, fl_tr hflags⟩, ly_D hD hP rfl rfl hS.1, ⟨hK2, hK2, hK3⟩, ⟨rx_St.ad adL_hi (hst l D cI cA H.size).1, rx_St.ad adL_hi (hst l D cI cA H.size).1, rx_Rs.ad adL_hi (hst l D cI cA H.size).2, rx_Rs.ad adL_hi (hst l D cI cA H.size).2, hZ⟩⟩ ⟨hl.1, hl.2.1, fun q hq => hl.2.2 q ?_⟩ ⟨pC, pM, pO, Nat.le_refl _, hS⟩
  have hq' : q ∈ lw_l ((l, D, adL lC ad, cI, cA, H.size), (l, D, adL lM ad, cI, cA, H.size), (o, cO), (b, L, xs)) 0 := hq
  unfold lw_l at hq'
  simp only [List.mem_cons, List.not_mem_nil, or_false] at hq'
  rcases hq' with rfl | rfl | rfl | rfl | rfl
  · exact List.mem_of_getElem? (i := 4) rfl
  · exact List.mem_of_getElem? (i := 3) rfl
  · exact List.mem_of_getElem? (i := 2) rfl
  · exact List.mem_of_getElem? (i := 1) rfl
  · exact List.mem_of_getElem? (i := 0) rfl
/-- both sides are made: the row 'out' -/
theorem ws_out {D : va_G} {ad : Nat → Nat} {cI cA : ClassId} {lC lM : List Nat} {w1 w2 : va_W} {H : Heap} {locs : List Loc} {ls : Array Slot} {ce sl : Nat} (hflags : l.flags = flags0) (hL : L ≤ 3072) (C0 : lw_At p s m meth c b L xs) (fix : CallFix p m c code 7 s #[.ref b] rx_gw "GlassRoomLaw")
    (hst : ∀ (l : Launch) (D : va_G) (cI cL : ClassId) (sz : Nat), rx_St (l, D, ad, cI, cL, sz) (lw_A0 s) s s.heap ∧ rx_Rs (l, D, ad, cI, cL, sz) s) (hZ : tx_Z (lw_A0 s) s s.heap)
    (hK : va_K D vwCl [(cI, .int), (cA, .object "GlassRoom$Light")] s) (e1 : ∀ sz, w1 = rx_wd wC (l, D, adL lC ad, cI, cA, sz) hC0) (e2 : ∀ sz, w2 = rx_wd wM (l, D, adL lM ad, cI, cA, sz) hM0)
    (hP : va_P D vwCl (w1 ++ w2) H) (hD : va_D (lw_A0 s) (w1 ++ w2)) (hS : va_S (lw_A0 s) s.heap H locs)
    (hl : lv_has ls 7 [(2, .ref (lM.getD 0 0)), (1, .ref (lC.getD 0 0)), (0, .ref b)]) (h1 : ce ≤ 100) (h2 : sl ≤ 15000) : W p l e room_1 s m #[.ref b] below meth c H locs ce sl (lw_Z below #[.ref b] s) (F0 m 16 ls []) := by
  have x1 := fix.1
  have x2 := fix.2.1
  refine lv_iconst (v := 1) x1 x2 dL_law_16 (by decide) ?_
  have ha : (Cond.arrayClass .long).before #[Value.ref b] s = true := fix.2.2.2.2 _ (rx_s7 149 rfl rfl)
  refine va_newa (D := D) (cl := vwCl) (A := lw_A0 s) (atype := .long) (ty := .long) (N' := 1) (a0 := (1, .inr (.inl fun _ => 0))) x1 x2 ha rfl hK hP hD hS (fun q hq => hq) (fun cA => rfl) (by decide) (by decide) (by decide) (show ce + 1 ≤ 601024 by omega) (show sl + 1 ≤ 7293034 by omega) dL_law_17 (fun o cO H5 hK5 hP5 hD5 hS5 => ?_)
  refine lv_astore_n (i := 3) x1 x2 dL_law_19 rfl hl (by decide) rfl (fun ls4 hl4 => ?_)
  refine lv_iconst (v := zI ((0 : Nat) : Int)) x1 x2 dL_law_20 (by decide) ?_
  refine lv_istore x1 x2 dL_law_21 hl4 (by decide) rfl (fun ls5 hl5 => ?_)
  rw [e1 H5.size, e2 H5.size] at hP5 hD5
  exact ws_loop hflags hL C0 fix hst hZ hK5 hP5 hD5 hS5 hl5 (by omega) (by omega)
/-- the class is made: the model -/
theorem ws_mod {D : va_G} {ad : Nat → Nat} {cI cA : ClassId} {lC : List Nat} {w1 : va_W} {H : Heap} {locs : List Loc} {ls : Array Slot} {ce sl : Nat} (hflags : l.flags = flags0) (hL : L ≤ 3072) (C0 : lw_At p s m meth c b L xs) (fix : CallFix p m c code 7 s #[.ref b] rx_gw "GlassRoomLaw")
    (hst : ∀ (l : Launch) (D : va_G) (cI cL : ClassId) (sz : Nat), rx_St (l, D, ad, cI, cL, sz) (lw_A0 s) s s.heap ∧ rx_Rs (l, D, ad, cI, cL, sz) s) (hZ : tx_Z (lw_A0 s) s s.heap) (hO : rc_O s)
    (hK0 : va_K D vwCl [(cI, .int)] s) (hK : va_K D vwCl [(cI, .int), (cA, .object "GlassRoom$Light")] s) (e1 : ∀ sz, w1 = rx_wd wC (l, D, adL lC ad, cI, cA, sz) hC0)
    (hP : va_P D vwCl w1 H) (hD : va_D (lw_A0 s) w1) (hS : va_S (lw_A0 s) s.heap H locs)
    (hl : lv_has ls 7 [(1, .ref (lC.getD 0 0)), (0, .ref b)]) (h1 : ce ≤ 50) (h2 : sl ≤ 4000) : W p l e room_1 s m #[.ref b] below meth c H locs ce sl (lw_Z below #[.ref b] s) (F0 m 8 ls []) := by
  have x1 := fix.1
  have x2 := fix.2.1
  obtain ⟨cn', T', ty1, g1, g2, g3, g4, g5, g6, g7⟩ := nz_L_16
  refine va_new (D := D) (cl := vwCl) (ws := w1) (A := lw_A0 s) x1 x2 fix.2.2.2.2 g2 ty1 g3 fix.2.2.2.1 (fix.2.2.2.2 _ g4) (fix.2.2.2.2 _ g5) (fix.2.2.2.2 _ g6) hK hP hD hS (fun q hq => hq) g1 g7 (show ce + 1 ≤ 601024 by omega) (show sl + 45 ≤ 7293034 by omega) dL_law_8 (fun q2 H3 hP3 hD3 hS3 => ?_)
  refine lv_dup x1 x2 dL_law_11 rfl ?_
  refine lw_ctor (G := (l, D, ad, cI, cI, s.heap.size)) (wr := w1) (x0 := xMo) (R' := rMo) (mc' := 23) (ms' := 7286) (y := q_M_init) (Q' := qMo (l, D, ad, cI, cI, s.heap.size) q2) rfl fix rfl dL_law_12 cz_L_18 (fun sz g1 g2 => e_M2 q2 sz g1 g2) rfl rfl (by decide) (by decide) hK0 (hst l D cI cI s.heap.size).1 hO hP3 hD3 hS3 hl.1 (show 1 + 0 ≤ 8 from by decide) (show ce + 1 + 23 ≤ 601024 by omega) (show sl + 45 + 7286 ≤ 7293034 by omega) (fun t2 w2 H4 locs4 hq hK4 hP4 hD4 hS4 => ?_)
  obtain ⟨lM, e0', eM⟩ := hq
  refine lv_astore_n (i := 2) x1 x2 dL_law_15 rfl hl (by decide) rfl (fun ls3 hl3 => ?_)
  subst e0'
  exact ws_out hflags hL C0 fix hst hZ hK e1 (eM cA) hP4 hD4 hS4 hl3 (by omega) (by omega)
end WST
theorem whole_start {p : Program} {e : Env} {s : State} {m : MethodId} {below : List Frame} {meth : Method} {c : Code} (l : Launch) (hflags : l.flags = flags0) {b L : Nat} {xs : Nat → Int32} (hL : L ≤ 3072) (C0 : lw_At p s m meth c b L xs) : W p l e room_1 s m #[Value.ref b] below meth c s.heap [] 0 0 (lw_Z below #[Value.ref b] s) (entryFrame m ([Value.ref b] : List Value).toArray 7) := by
  have C1 := C0
  obtain ⟨x1, x2, x3, x4, x5, x6, x7, x8, x9, x10⟩ := C0
  have hgw : ∀ w ∈ rx_gw, w.before #[Value.ref b] s = true := fun w hw => x6 w (List.mem_filter.mp hw).1
  have fix : CallFix p m c code 7 s #[.ref b] rx_gw "GlassRoomLaw" := ⟨x1, x2, x4, x5, hgw⟩
  obtain ⟨D, hKn⟩ := st_D hgw
  obtain ⟨cI, hI1, hI2⟩ := st_I hgw
  obtain ⟨ad, hst⟩ := st_St x6 x10
  have hO := st_O x6
  have hZ := st_Z x6 x10
  have hK : va_K D vwCl [(cI, .int)] s := ⟨hKn, fun k q hq => by
    cases k with
    | zero => cases hq; exact ⟨hI1, hI2⟩
    | succ k => cases hq⟩
  have hl := lv_entry [Value.ref b] (n := 7) (show 1 ≤ 7 from by decide)
  rw [lg_entry_eq]
  generalize (lg_sl [Value.ref b] ++ List.replicate (7 - (lg_sl [Value.ref b]).length) Slot.unset).toArray = ls at hl ⊢
  obtain ⟨cn, T, ty0, f1, f2, f3, f4, f5, f6, f7⟩ := nz_L_8
  refine va_new (D := D) (cl := vwCl) (tys := [(cI, .int)]) (ws := []) (A := lw_A0 s) x1 x2 hgw f2 ty0 f3 x5 (hgw _ f4) (hgw _ f5) (hgw _ f6) hK (fun k q h => by cases h) ⟨fun i j a b h => (by cases h), fun k q h => (by cases h)⟩ va_S.rf (fun q hq => hq) f1 f7 (by decide) (by decide) dL_law_0 (fun q1 H1 hP1 hD1 hS1 => ?_)
  refine lv_dup x1 x2 dL_law_3 rfl ?_
  refine lw_ctor (G := (l, D, ad, cI, cI, s.heap.size)) (wr := []) (x0 := xGR) (R' := rGR) (mc' := 49) (ms' := 3053) (y := q_GR_init) (Q' := qGR (l, D, ad, cI, cI, s.heap.size) q1) rfl fix rfl dL_law_4 cz_L_15 (fun sz g1 g2 => e_GR2 q1 sz g1 g2) rfl rfl (by decide) (by decide) hK (hst l D cI cI s.heap.size).1 hO hP1 hD1 hS1 hl.1 (show 1 + 0 ≤ 8 from by decide) (by decide) (by decide) (fun t1 w1 H2 locs2 hq hK2 hP2 hD2 hS2 => ?_)
  obtain ⟨cA, lC, e0, et, eC⟩ := hq
  subst et
  rw [List.nil_append] at hP2 hD2
  refine lv_astore_n (i := 1) x1 x2 dL_law_7 rfl hl (by decide) rfl (fun ls2 hl2 => ?_)
  subst e0
  exact ws_mod hflags hL C1 fix hst hZ hO hK hK2 eC hP2 hD2 hS2 hl2 (by decide) (by decide)

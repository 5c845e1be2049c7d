/-! the law's case of body -/
section LWB
variable {p : Program} {l : Launch} {e : Env} {R : Room} {s : State} {m : MethodId} {args : Array Value} {below : List Frame} {meth : Method} {c : Code}
theorem lb_go {G : rx_Gh} {A0 : Nat → Prop} {H : Heap} {locs : List Loc} {ce sl mc ms pc o : Nat} {cO : ClassId} {v : Int32} {f : Nat → Int64} {hc : rx_Hp} {QQ : State → Prop} {ls : Array Slot} {rest st0 : List Value} {a : Array Value}
    (hr : va_Run p l e R s m args below meth c H locs ce sl mc ms (F0 m pc ls st0) rest (lb_Q G hc o cO v f a) (lb_A G o)) (hS : va_S A0 s.heap H locs) (hA : ∀ q, lb_A G o q → A0 q)
    (kk : ∀ (H1 : Heap) (locs1 : List Loc), va_P G.2.1 vwCl (rx_wd wC G hc) H1 → va_P G.2.1 vwCl (lb_o o cO f) H1 → (∀ q : Nat, q < H.size → ¬ lb_A G o q → H1[q]? = H[q]?) → H.size ≤ H1.size → va_S A0 s.heap H1 locs1 → W p l e R s m args below meth c H1 locs1 (ce + mc) (sl + ms) QQ (F0 m (pc + 3) ls (.int v :: rest))) : W p l e R s m args below meth c H locs ce sl QQ (F0 m pc ls st0) := by
  intro T hT X
  obtain ⟨v9, st₀, t, T', L, h0, X', hL, e1, e2, ⟨hv, hp1, hp2, hz, hk⟩, stp⟩ := hr T hT X
  cases hv
  rw [h0] at hz hk
  obtain ⟨t2, a1, b1⟩ := kk T'.heap (locs ++ L) (by rw [e1]; exact hp1) (by rw [e1]; exact hp2) (fun q h1 h2 => by rw [e1]; exact hk q h1 h2) (by rw [e1]; exact hz)
    ⟨Nat.le_trans hS.1 (by rw [e1]; exact hz), fun q h1 h2 => by rw [e1, hk q (Nat.lt_of_lt_of_le h1 hS.1) (fun z => h2 (hA q z))]; exact hS.2.1 q h1 h2, fun q hq => by
      rcases List.mem_append.mp hq with h | h
      · exact hS.2.2 q h
      · exact hA _ (hL q h)⟩ T' rfl X'
  exact ⟨t2, stp t2 a1, b1⟩
end LWB
theorem lb_good : GoodIn rx_gw (va_wsS "GlassRoomLaw" 38 yL_body lb_ws) := rx_good fun w hw => by
  rcases List.mem_append.mp hw with h | h
  · simp only [List.mem_cons, List.not_mem_nil, or_false] at h
    rcases h with rfl | rfl | rfl
    · exact (rx_s5 20 rfl rfl)
    · exact (rx_s5 21 rfl rfl)
    · exact (rx_s1 0 rfl rfl)
  · rcases List.mem_cons.mp h with rfl | h
    · exact (rx_s5 22 rfl rfl)
    · exact h
section LWD
variable {Γ : lw_Γ} {n pc : Nat} {ex : List (Nat × Value)} {st : List Value} {hc hm : rx_Hp} {f : Nat → Int64} {ce sl : Nat} {S : Gs}
theorem lw_Ao {s : State} (h : lw_D Γ s.heap.size) : ∀ q, lb_A Γ.1 Γ.2.2.1.1 q → lw_A0 s q := by
  rintro q (hq | rfl)
  · exact lw_AC h q hq
  · exact h.2.2.2.2.1.1
theorem l_body {b k : Int32} (hd : decode code pc = .ok (.invokestatic 38, 3)) (ok : ROk S) (rc : RC S hc) (hcs : ce + 1 ≤ 601024 ∧ sl + 6 ≤ 7293034)
    (k0 : bodI S.nb b k = true → Lw Γ n (pc + 3) ex [.int 0] hc hm (vp_updL f (0 : Int32).toNatClampNeg (A_body S.X S.Y S.A b k).toInt64) ce sl)
    (k1 : ¬ bodI S.nb b k = true → Lw Γ n (pc + 3) ex [.int 1] hc hm f (ce + 1) (sl + 6)) : Lw Γ n pc ex [.ref Γ.2.2.1.1, .int k, .int b, .ref (Γ.1.2.2.1 0)] hc hm f ce sl := by
  intro p l e s m below meth c H locs ls C hl hH
  obtain ⟨c1, c2, ⟨rfl, c3⟩, c4, c5, c6⟩ := C
  have hCC : lw_C Γ p Γ.1.1 s m meth c := ⟨c1, c2, ⟨rfl, c3⟩, c4, c5, c6⟩
  obtain ⟨h1, h2, h3, h4, h5⟩ := hH
  have hpre : ∀ U : State, U.heap = H → s.WarmedH U.vm → lb_B Γ.1 hc Γ.2.2.1.1 Γ.2.2.1.2 f U := fun U hU hW =>
    ⟨⟨lw_pre h4 c4.1 h1 c5.1 c6.1 c6.2.2.1 h5 (lw_AC c4) U hU hW, by rw [hU]; exact ((c6.2.2.2.2.kept h5.2.1).warm hW).narrow (lw_AC c4)⟩, by rw [hU]; exact h3, va_K.moved hW.alike c5.2.2⟩
  have hkeepM : ∀ H1 : Heap, (∀ q : Nat, q < H.size → ¬ lb_A Γ.1 Γ.2.2.1.1 q → H1[q]? = H[q]?) → va_P Γ.2.1.2.1 vwCl (rx_wd wM Γ.2.1 hm) H1 := fun H1 hk => lw_wdk h2 fun j hj => hk _ (lw_wlt h2 hj) (by
    rintro (hq | hq)
    · exact lw_noCM c4 hj hq
    · exact c4.2.2.2.2.2.2.2.1 j hj hq)
  by_cases hb : bodI S.nb b k = true
  · refine lb_go (G := Γ.1) (A0 := lw_A0 s) (hc := hc) (o := Γ.2.2.1.1) (cO := Γ.2.2.1.2) (mc := 0) (ms := 0) (v := 0) (f := vp_updL f (0 : Int32).toNatClampNeg (A_body S.X S.Y S.A b k).toInt64) (rest := [])
      (vx_runSW (y := yL_body) (bytes := cL_body) (maxL := 5) (nL := 7) (n := 4) (index := 38) (ret := some .int) (hh := lb_hh) (ws := lb_ws) (rm := lb_r0) (Ts := rx_gw) (own := "GlassRoomLaw") (As := [.ref (Γ.1.2.2.1 0), .int b, .int k, .ref Γ.2.2.1.1]) (rest := []) c1.1 (lb_a ok.h rc.h (lw_noCo c4) hb)
        (vx_cwSW 4 c1.1.2.2.2.2 lb_good rfl rfl rfl ⟨by decide, by decide, by decide +kernel⟩ ⟨by decide, by decide⟩) ⟨lb_blind, fun U hU hW => ⟨rfl, hpre U hU hW⟩⟩ rfl rfl hl.1 rfl (lv_room (st := []) (by decide)) hd ⟨by have := hcs.1; show ce + 0 ≤ 601024; omega, by have := hcs.2; show sl + 0 ≤ 7293034; omega⟩) h5 (lw_Ao c4) (fun H1 locs1 q1 q2 q3 q4 q5 => ?_)
    exact k0 hb p _ e s m below meth c H1 locs1 ls hCC hl ⟨q1, hkeepM H1 q3, q2, Nat.le_trans h4 q4, q5⟩
  · refine lb_go (G := Γ.1) (A0 := lw_A0 s) (hc := hc) (o := Γ.2.2.1.1) (cO := Γ.2.2.1.2) (mc := 1) (ms := 6) (v := 1) (f := f) (rest := [])
      (vx_runSW (y := yL_body) (bytes := cL_body) (maxL := 5) (nL := 7) (n := 4) (index := 38) (ret := some .int) (hh := lb_hh) (ws := lb_ws) (rm := lb_r1) (Ts := rx_gw) (own := "GlassRoomLaw") (As := [.ref (Γ.1.2.2.1 0), .int b, .int k, .ref Γ.2.2.1.1]) (rest := []) c1.1 (lb_b ok.h rc.h c3.2 (lw_noCo c4) hb)
        (vx_cwSW 4 c1.1.2.2.2.2 lb_good rfl rfl rfl ⟨by decide, by decide, by decide +kernel⟩ ⟨by decide, by decide⟩) ⟨lb_blind, fun U hU hW => ⟨rfl, hpre U hU hW⟩⟩ rfl rfl hl.1 rfl (lv_room (st := []) (by decide)) hd hcs) h5 (lw_Ao c4) (fun H1 locs1 q1 q2 q3 q4 q5 => ?_)
    exact k1 hb p _ e s m below meth c H1 locs1 ls hCC hl ⟨q1, hkeepM H1 q3, q2, Nat.le_trans h4 q4, q5⟩
theorem l_ist5 {x : Int32} (hd : decode code pc = .ok (.istore 5, 2)) (k : Lw Γ n (pc + 2) [(5, .int x)] st hc hm f ce sl) : Lw Γ n pc [] (.int x :: st) hc hm f ce sl :=
  fun p l e s m below meth c H locs ls C hl hH => lv_istore C.1.1.1 C.1.1.2.1 hd hl (by decide) rfl (fun ls' h' => k p l e s m below meth c H locs ls' C h' hH)
theorem l_ist6 {x y : Int32} (hd : decode code pc = .ok (.istore 6, 2)) (k : Lw Γ n (pc + 2) [(6, .int x), (5, .int y)] st hc hm f ce sl) : Lw Γ n pc [(5, .int y)] (.int x :: st) hc hm f ce sl :=
  fun p l e s m below meth c H locs ls C hl hH => lv_istore C.1.1.1 C.1.1.2.1 hd hl (by decide) rfl (fun ls' h' => k p l e s m below meth c H locs ls' C h' hH)
theorem l_ild {i j : Nat} {x : Int32} (hd : decode code pc = .ok (.iload i, 2)) (hj : ex[j]? = some (i, .int x)) (k : Lw Γ n (pc + 2) ex (.int x :: st) hc hm f ce sl) : Lw Γ n pc ex st hc hm f ce sl :=
  fun p l e s m below meth c H locs ls C hl hH => lv_iload C.1.1.1 C.1.1.2.1 hd (hl.2.2 (i, .int x) (List.mem_append_left _ (List.mem_of_getElem? hj))) (k p l e s m below meth c H locs ls C hl hH)
theorem l_icmp {v : Int32} {off : Int} {tgt : Nat} (hd : decode code pc = .ok (.if_icmp .eq off, 3)) (ht : (pc : Int) + off = (tgt : Int)) (k : Lw Γ n tgt ex st hc hm f ce sl) : Lw Γ n pc ex (.int v :: .int v :: st) hc hm f ce sl :=
  fun p l e s m below meth c H locs ls C hl hH => lv_icmp_eq C.1.1.1 C.1.1.2.1 hd ht (fun _ => k p l e s m below meth c H locs ls C hl hH) (fun z => absurd rfl z)
theorem l_ifne {v : Int32} {off : Int} {tgt : Nat} (hd : decode code pc = .ok (.ifCond .ne off, 3)) (ht : (pc : Int) + off = (tgt : Int)) (kt : ¬ v = 0 → Lw Γ n tgt ex st hc hm f ce sl) (kf : v = 0 → Lw Γ n (pc + 3) ex st hc hm f ce sl) : Lw Γ n pc ex (.int v :: st) hc hm f ce sl :=
  fun p l e s m below meth c H locs ls C hl hH => lv_if_ne C.1.1.1 C.1.1.2.1 hd ht (fun z => kt z p l e s m below meth c H locs ls C hl hH) (fun z => kf z p l e s m below meth c H locs ls C hl hH)
theorem l_ifeq {v : Int32} {off : Int} {tgt : Nat} (hd : decode code pc = .ok (.ifCond .eq off, 3)) (ht : (pc : Int) + off = (tgt : Int)) (hv : v = 0) (kt : Lw Γ n tgt ex st hc hm f ce sl) : Lw Γ n pc ex (.int v :: st) hc hm f ce sl :=
  fun p l e s m below meth c H locs ls C hl hH => lv_if_eq C.1.1.1 C.1.1.2.1 hd ht (fun _ => kt p l e s m below meth c H locs ls C hl hH) (fun z => absurd hv z)
theorem l_goto {off : Int} {tgt : Nat} (hd : decode code pc = .ok (.goto off, 3)) (ht : (pc : Int) + off = (tgt : Int)) (k : Lw Γ n tgt ex st hc hm f ce sl) : Lw Γ n pc ex st hc hm f ce sl :=
  fun p l e s m below meth c H locs ls C hl hH => lv_goto C.1.1.1 C.1.1.2.1 hd ht (k p l e s m below meth c H locs ls C hl hH)
theorem l_out {v : Int64} (hd : decode code pc = .ok (.aload_n 3, 1)) (d1 : decode code (pc + 1) = .ok (.iconst 0, 1)) (d2 : decode code (pc + 2) = .ok (.laload, 1)) (hv : f (0 : Int32).toNatClampNeg = v) (k : Lw Γ n (pc + 3) ex (.long v :: st) hc hm f ce sl) : Lw Γ n pc ex st hc hm f ce sl := by
  intro p l e s m below meth c H locs ls C hl hH
  subst hv
  refine lv_aload_n (i := 3) C.1.1.1 C.1.1.2.1 hd rfl (lw_at hl (i := 3) rfl) ?_
  refine lv_iconst (v := 0) C.1.1.1 C.1.1.2.1 d1 (by decide) ?_
  exact va_lald C.1.1.1 C.1.1.2.1 C.2.2.2.2.1.2.2 hH.2.2.1 0 0 rfl rfl (show ¬ ((0 : Int32) < 0 ∨ 1 ≤ (0 : Int32).toNatClampNeg) from by decide) d2 (k p l e s m below meth c H locs ls C hl hH)
theorem l_lcmp {x : Int64} (hd : decode code pc = .ok (.lcmp, 1)) (k : Lw Γ n (pc + 1) ex (.int (lg_cmp x x) :: st) hc hm f ce sl) : Lw Γ n pc ex (.long x :: .long x :: st) hc hm f ce sl :=
  fun p l e s m below meth c H locs ls C hl hH => W.lcmp C.1.1.1 C.1.1.2.1 hd (k p l e s m below meth c H locs ls C hl hH)
/-- the model's part, and the comparison: v = 0 and its answer, or v = 1 -/
theorem cs_4m {b k v : Int32} (hn : n + 6 ≤ Γ.2.2.2.2.1) (ok : ROk S) (rc : RC S hc) (rm : RM S hm) (hcs : ce ≤ 601024 ∧ sl ≤ 7293034) (eb : Γ.2.2.2.2.2 (n + 1) = b) (ek : Γ.2.2.2.2.2 (n + 2) = k)
    (hv : v = (if bodI S.nb b k = true then 0 else 1)) (hf : v = 0 → f (0 : Int32).toNatClampNeg = (if bodI S.nb b k = true then A_body S.X S.Y S.A b k else 0).toInt64) (K : ∀ hm' ex, RM S hm' → Lw Γ n 1563 ex [] hc hm' f ce sl) : Lw Γ n 349 [] [.int v] hc hm f ce sl := by
  refine l_ist5 dL_law_349 ?_
  refine l_m dL_law_351 ?_
  refine l_arg 1 (by decide) hn dL_law_352 dL_law_353 dL_law_355 dL_law_356 dL_law_357 rfl ?_
  refine l_arg 2 (by decide) hn dL_law_358 dL_law_359 dL_law_361 dL_law_362 dL_law_363 rfl ?_
  rw [eb, ek]
  have hE : Ev wM Γ.2.1 3 q_M_body [.ref 0, .int b, .int k] hm (rI fun x h' => x = (if bodI S.nb b k = true then A_body S.X S.Y S.A b k else 0) ∧ (RM S h' ∧ h'.1 0 0 = (if bodI S.nb b k = true then 0 else 1))) :=
    a_body_m ok.h rm.h b k (fun h' fr e => ⟨rfl, rm.fr fr, e⟩)
  refine l_callM [.int b, .int k] [] dL_law_364 ml_L_43 hE rfl rfl (by decide) rfl (by decide) hcs (fun hm' ⟨rm', et⟩ => ?_) rfl
  refine l_ist6 dL_law_367 ?_
  refine l_m dL_law_369 ?_
  have hT : Ev wM Γ.2.1 1 q_M_thrown [.ref 0] hm' (rI fun x h' => x = v ∧ h' = hm') := w_M_thrown ⟨by rw [et, hv], rfl⟩
  refine l_callM [] [] dL_law_370 ml_L_44 hT rfl rfl (by decide) rfl (by decide) hcs (fun hm2 e2 => ?_) rfl
  subst e2
  refine l_ild (j := 1) dL_law_373 rfl ?_
  refine l_icmp (tgt := 380) dL_law_375 (by decide) ?_
  refine l_ild (j := 1) dL_law_380 rfl ?_
  refine l_ifne (tgt := 397) dL_law_382 (by decide) (fun _ => l_goto (tgt := 1563) dL_law_397 (by decide) (K _ _ rm')) (fun h0 => ?_)
  refine l_out dL_law_385 dL_law_386 dL_law_387 (hf h0) ?_
  refine l_ild (j := 0) dL_law_388 rfl ?_
  refine l_i2l dL_law_390 ?_
  refine l_lcmp dL_law_391 ?_
  refine l_ifeq (tgt := 397) dL_law_392 (by decide) ((lg_cmp_eq _ _).mpr rfl) ?_
  exact l_goto (tgt := 1563) dL_law_397 (by decide) (K _ _ rm')
theorem cs_4 (hn : n + 6 ≤ Γ.2.2.2.2.1) (ok : ROk S) (rc : RC S hc) (rm : RM S hm) (hcs : ce + 1 ≤ 601024 ∧ sl + 6 ≤ 7293034) (K : LK Γ n ce sl) : Lw Γ n 332 [] [] hc hm f ce sl := by
  have h1 := hcs.1
  have h2 := hcs.2
  refine l_c dL_law_332 ?_
  refine l_arg 1 (by decide) hn dL_law_333 dL_law_334 dL_law_336 dL_law_337 dL_law_338 rfl ?_
  refine l_arg 2 (by decide) hn dL_law_339 dL_law_340 dL_law_342 dL_law_343 dL_law_344 rfl ?_
  refine l_o dL_law_345 ?_
  refine l_body dL_law_346 ok rc hcs (fun hb => ?_) (fun hb => ?_)
  · refine cs_4m hn ok rc rm ⟨by omega, by omega⟩ rfl rfl (by rw [if_pos hb]) (fun _ => by rw [if_pos hb]; simp [vp_updL]) (fun hm' ex rm' => K S hc hm' _ ce sl ex ok rc rm' (Nat.le_succ _) (Nat.le_add_right _ _))
  · refine cs_4m hn ok rc rm hcs rfl rfl (by rw [if_neg hb]) (fun z => absurd z (by decide)) (fun hm' ex rm' => K S hc hm' _ (ce + 1) (sl + 6) ex ok rc rm' (Nat.le_refl _) (Nat.le_refl _))
end LWD

/-! both sides made -/
def xGR : va_E := .inr (11, [.null, .null, .null, .null, .null, .null, .null, .null, .null, .null, .null, .null, .null, .null, .int 0, .int 0, .int 0])
def xMo : va_E := .inr (12, [.int 0, .null, .int 0, .int 0, .int 0, .int 0, .null, .null, .null, .null, .null, .null, .null, .int 0, .int 0, .null, .null, .null, .null, .int 0, .null, .null, .null, .int 0, .int 0, .int 0, .int 0, .int 0, .int 0, .null, .int 0, .null, .null, .null, .int 0, .int 0, .int 0, .null, .int 0, .int 0, .null, .null, .int 0, .null, .int 0])
def rGR : Room := { frames := 3, cells := 49, slots := 3053, locals := 53 }
def rMo : Room := { frames := 1, cells := 23, slots := 7286, locals := 12 }
theorem ec_mono {G : rx_Gh} {R : Room} {mc ms : Nat} {q : rx_Mi} {h0 : Nat} {As : List Value} {x0 : va_E} {sz : Nat} {Q Q' : rc_T → va_W → Prop} (h : Ec G R mc ms q h0 As x0 sz Q) (hq : ∀ t w, Q t w → Q' t w) : Ec G R mc ms q h0 As x0 sz Q' := by
  unfold Ec Met at h ⊢
  refine MetFree.mono h (fun _ _ z => z) (fun _ _ _ _ _ z => z) (fun a s o t _ z => ?_)
  obtain ⟨⟨⟨u, h1, h2, h3⟩, h4⟩, h5⟩ := z
  exact ⟨⟨⟨u, h1, hq _ _ h2, h3⟩, h4⟩, h5⟩
def qGR (G : rx_Gh) (h0 : Nat) : rc_T → va_W → Prop := fun t w => ∃ (cA : ClassId) (lC : List Nat), lC.getD 0 0 = h0 ∧ t = rc_I G ++ [(cA, .object "GlassRoom$Light")] ∧ ∀ sz, w = rx_wd wC (G.1, G.2.1, adL lC G.2.2.1, G.2.2.2.1, cA, sz) hC0
def qMo (G : rx_Gh) (h0 : Nat) : rc_T → va_W → Prop := fun _ w => ∃ lM : List Nat, lM.getD 0 0 = h0 ∧ ∀ (cA : ClassId) (sz : Nat), w = rx_wd wM (G.1, G.2.1, adL lM G.2.2.1, G.2.2.2.1, cA, sz) hM0
theorem e_GR2 {G : rx_Gh} (h0 sz : Nat) (g1 : G.2.2.2.2.2 ≤ h0) (g2 : G.2.2.2.2.2 ≤ sz) : Ec G rGR 49 3053 q_GR_init h0 [] xGR sz (qGR G h0) := by
  refine ec_mono (e_GR h0 sz g1 g2) (fun t w h => ?_)
  obtain ⟨cA, a1, a2, a3, a4, a5, a6, a7, a8, a9, a10, a11, a12, a13, a14, a15, a16, a17, a18, a19, a20, a21, a22, a23, a24, a25, a26, a27, a28, a29, a30, a31, a32, a33, a34, a35, a36, a37, a38, a39, a40, a41, a42, a43, a44, a45, a46, a47, a48, a49, e1, e2⟩ := h
  exact ⟨cA, [h0, a1, a2, a3, a4, a5, a6, a7, a8, a9, a10, a11, a12, a13, a14, a15, a16, a17, a18, a19, a20, a21, a22, a23, a24, a25, a26, a27, a28, a29, a30, a31, a32, a33, a34, a35, a36, a37, a38, a39, a40, a41, a42, a43, a44, a45, a46, a47, a48, a49], rfl, e1, fun sz => by rw [e2]; exact new_c h0 a1 a2 a3 a4 a5 a6 a7 a8 a9 a10 a11 a12 a13 a14 a15 a16 a17 a18 a19 a20 a21 a22 a23 a24 a25 a26 a27 a28 a29 a30 a31 a32 a33 a34 a35 a36 a37 a38 a39 a40 a41 a42 a43 a44 a45 a46 a47 a48 a49⟩
theorem e_M2 {G : rx_Gh} (h0 sz : Nat) (g1 : G.2.2.2.2.2 ≤ h0) (g2 : G.2.2.2.2.2 ≤ sz) : Ec G rMo 23 7286 q_M_init h0 [] xMo sz (qMo G h0) := by
  refine ec_mono (e_M h0 sz g1 g2) (fun t w h => ?_)
  obtain ⟨a1, a2, a3, a4, a5, a6, a7, a8, a9, a10, a11, a12, a13, a14, a15, a16, a17, a18, a19, a20, a21, a22, a23, e2⟩ := h
  exact ⟨[h0, a1, a2, a3, a4, a5, a6, a7, a8, a9, a10, a11, a12, a13, a14, a15, a16, a17, a18, a19, a20, a21, a22, a23], rfl, fun cA sz => by rw [e2]; exact new_m h0 a1 a2 a3 a4 a5 a6 a7 a8 a9 a10 a11 a12 a13 a14 a15 a16 a17 a18 a19 a20 a21 a22 a23⟩
section LCT
variable {p : Program} {l : Launch} {e : Env} {s : State} {m : MethodId} {args : Array Value} {below : List Frame} {meth : Method} {c : Code} {H : Heap} {locs : List Loc} {ls : Array Slot} {ce sl pc : Nat} {QQ : State → Prop} {st : List Value}
/-- the law makes a side -/
theorem lw_ctor {G : rx_Gh} {y : rx_Mi} {b idx mc' ms' : Nat} {x0 : va_E} {R' : Room} {Q' : rc_T → va_W → Prop} {wr : va_W} (hl : l = G.1) (hfix : CallFix p m c code 7 s args rx_gw "GlassRoomLaw") (hz : G.2.2.2.2.2 = s.heap.size) (hd : decode code pc = .ok (.invokespecial idx, 3)) (hC : rc_C "GlassRoomLaw" idx y 0) (hE : ∀ sz, G.2.2.2.2.2 ≤ b → G.2.2.2.2.2 ≤ sz → Ec G R' mc' ms' y b [] x0 sz Q') (hrc : R'.cells = mc') (hrs : R'.slots = ms') (hRf : R'.frames + 1 ≤ 2048) (hRl : 8 + (y.2.2.1 + 11) + R'.locals ≤ 84000)
    (hK : va_K G.2.1 vwCl (rc_I G) s) (hSt : rx_St G (lw_A0 s) s s.heap) (hO : rc_O s) (hP : va_P G.2.1 vwCl (wr ++ [(b, x0)]) H) (hD : va_D (lw_A0 s) (wr ++ [(b, x0)])) (hS : va_S (lw_A0 s) s.heap H locs) (hls : ls.size = 7) (hsum : (st.map fun v => v.category).sum ≤ 8) (hc : ce + mc' ≤ 601024) (hs : sl + ms' ≤ 7293034)
    (k : ∀ (t1 : rc_T) (w1 : va_W) (H1 : Heap) (locs1 : List Loc), Q' t1 w1 → va_K G.2.1 vwCl t1 s → va_P G.2.1 vwCl (wr ++ w1) H1 → va_D (lw_A0 s) (wr ++ w1) → va_S (lw_A0 s) s.heap H1 locs1 → W p l e room_1 s m args below meth c H1 locs1 (ce + mc') (sl + ms') QQ (F0 m (pc + 3) ls st)) : W p l e room_1 s m args below meth c H locs ce sl QQ (F0 m pc ls (.ref b :: st)) := by
  subst hl
  obtain ⟨⟨k1, k2, k3, k4⟩, k5, k6, k7, k8⟩ := hC
  have k1 : Cond.methodLink "GlassRoomLaw" idx y.1 ∈ rx_gw := by
    rcases k1 with k1 | k1
    · exact k1
    · unfold rc_NL at k1
      simp only [List.mem_cons, Cond.methodLinkNest.injEq, List.not_mem_nil, or_false] at k1
      rcases k1 with h | h | h | h | h | h <;> exact absurd h.1 (by decide)
  have hat : (wr ++ [(b, x0)])[wr.length]? = some (b, x0) := by rw [List.getElem?_append_right (Nat.le_refl _), Nat.sub_self]; rfl
  have hbA : lw_A0 s b := hD.2 wr.length _ hat
  have g1 : G.2.2.2.2.2 ≤ b := by rw [hz]; exact hbA
  have g2 : G.2.2.2.2.2 ≤ H.size := by rw [hz]; exact hS.1
  have hPc : va_P G.2.1 vwCl [(b, x0)] H := hP.sub (ws' := [(b, x0)]) [wr.length] (by rw [List.filterMap_cons, hat]; rfl)
  have hCm : [wr.length].map (fun i => (wr ++ [(b, x0)])[i]?) = [(b, x0)].map some := by show [(wr ++ [(b, x0)])[wr.length]?] = _; rw [hat]; rfl
  have hFc := va_free (wc := [(b, x0)]) hD hS (fun z hz => hz) [wr.length] hCm
  have hg : GoodIn rx_gw (rx_ws y) := rx_good (fun w hw => by
    rcases List.mem_cons.mp hw with rfl | h
    · exact k6
    · exact h)
  have hAe : rc_A0 G = lw_A0 s := by funext q; unfold rc_A0 lw_A0; rw [hz]
  have hpre : PreS s H (va_Pc (.ref b :: []) (fun U => U.heap.size = H.size ∧ va_P G.2.1 vwCl [(b, x0)] U.heap ∧ va_K G.2.1 vwCl (rc_I G) U ∧ rx_St G (rc_A0 G) U U.heap ∧ rc_O U)) (.ref b :: []) := by
    refine ⟨rc_blind, fun U hU hW => ⟨rfl, by rw [hU], by rw [hU]; exact hPc, va_K.moved hW.alike hK, ?_, rc_O.warm hW hO⟩⟩
    rw [hU, hAe]
    exact rx_St.moved hW.alike (hSt.kept hS.2.1)
  have hw2 : rx_ws y = Cond.code y.1 y.2.1 y.2.2.1 none :: rx_gw := by unfold rx_ws; rw [k4]
  have hrun : va_Run p G.1 e room_1 s m args below meth c H locs ce sl mc' ms' (F0 m pc ls (.ref b :: st)) st (rc_Q G (va_A [(b, x0)] H.size) Q' (Value.ref b :: []).toArray) (va_A [(b, x0)] H.size) :=
    va_runI (As := []) (rest := st) (n := 0) (index := idx) (bytes := y.2.1) (maxL := y.2.2.1) hfix (hE H.size g1 g2) (cwI 0 hfix.2.2.2.2 (ws' := rx_gw) hg hw2 hrc hrs (hfix.2.2.2.2 _ k5) (hfix.2.2.2.2 _ k1) (hfix.2.2.2.2 _ k2) k3 k7 ⟨hRf, hRl⟩) hpre rfl rfl hls rfl (lv_room hsum) hd ⟨hc, hs⟩
  refine va_callv hrun hS (fun z _ h => hFc z h) hFc (fun u t H1 locs1 ht hvm hw hB hz1 hk1 hS1 => ?_)
  obtain ⟨t1, w1⟩ := u
  obtain ⟨hP1, hD1, hK1⟩ := hB
  rw [ht] at hP1
  obtain ⟨hP, hD⟩ := va_join (wr := wr) (w1 := w1) hP hD [wr.length] (List.range wr.length) hCm (rng_map wr _) (rng_nd _ List.nodup_range) (fun i hi hi2 => by
    have := List.mem_range.mp hi
    have h3 : i = wr.length := by simpa using hi2
    omega) hk1 hFc hP1 hD1
  exact k t1 w1 H1 locs1 hw (va_K.moved hvm.symm hK1) hP hD hS1
end LCT

/-! the model's reader of lights: clauses, the whole -/
section LRO
variable {n : Nat} {tb : Nat → Nat} {r : Nat}
def mcf (r x : Nat) (a b : rx_Hp) : Prop := Fr mlF [2, 3, 4, 5, 6, 7, 8] a b ∧ (∀ i, ¬ (340 * r ≤ i ∧ i < 340 * r + 340) → b.2.1 2 i = a.2.1 2 i ∧ b.2.1 3 i = a.2.1 3 i) ∧ (∀ j, ¬ j = r → b.2.1 4 j = a.2.1 4 j ∧ b.2.1 5 j = a.2.1 5 j) ∧ ∀ i, ¬ i = x → b.2.1 6 i = a.2.1 6 i ∧ b.2.1 7 i = a.2.1 7 i ∧ b.2.1 8 i = a.2.1 8 i
theorem mcf.tr {r x : Nat} {a b c : rx_Hp} (h1 : mcf r x a b) (h2 : mcf r x b c) : mcf r x a c := ⟨h1.1.tr h2.1, fun i hi => ⟨(h2.2.1 i hi).1.trans (h1.2.1 i hi).1, (h2.2.1 i hi).2.trans (h1.2.1 i hi).2⟩, fun j hj => ⟨(h2.2.2.1 j hj).1.trans (h1.2.2.1 j hj).1, (h2.2.2.1 j hj).2.trans (h1.2.2.1 j hj).2⟩, fun i hi => ⟨(h2.2.2.2 i hi).1.trans (h1.2.2.2 i hi).1, (h2.2.2.2 i hi).2.1.trans (h1.2.2.2 i hi).2.1, (h2.2.2.2 i hi).2.2.trans (h1.2.2.2 i hi).2.2⟩⟩
theorem mcf.rf {r x : Nat} {a : rx_Hp} : mcf r x a a := ⟨Fr.rf, fun _ _ => ⟨rfl, rfl⟩, fun _ _ => ⟨rfl, rfl⟩, fun _ _ => ⟨rfl, rfl, rfl⟩⟩
theorem mcf.m {r x : Nat} {a b : rx_Hp} (h : mfr r a b) : mcf r x a b := ⟨h.1.mono (fun _ z => z) (by decide), h.2.1, fun j hj => ⟨h.2.2 j hj, by rw [h.1.2.1 5 (by decide)]⟩, fun i _ => by rw [h.1.2.1 6 (by decide), h.1.2.1 7 (by decide), h.1.2.1 8 (by decide)]; exact ⟨rfl, rfl, rfl⟩⟩
theorem mcf.of {r x : Nat} {fs : List (Nat × Nat)} {a b : rx_Hp} (h : Fr fs [] a b) (hf : ∀ y ∈ fs, y ∈ mlF) : mcf r x a b := mcf.m (mfr.of h hf)
theorem mcf.p6 {r x : Nat} {a b : rx_Hp} (h : mcf r x a b) (v : Int32) : mcf r x a (rx_pa b 6 x v) := by
  refine ⟨h.1.pa (by decide), fun i hi => ?_, fun j hj => ?_, fun i hi => ?_⟩
  · rw [pa_ne _ _ (by simp), pa_ne _ _ (by simp)]; exact h.2.1 i hi
  · rw [pa_ne _ _ (by simp), pa_ne _ _ (by simp)]; exact h.2.2.1 j hj
  · rw [pa_ne _ _ (by simp [hi]), pa_ne _ _ (by simp), pa_ne _ _ (by simp)]; exact h.2.2.2 i hi
theorem mcf.p7 {r x : Nat} {a b : rx_Hp} (h : mcf r x a b) (v : Int32) : mcf r x a (rx_pa b 7 x v) := by
  refine ⟨h.1.pa (by decide), fun i hi => ?_, fun j hj => ?_, fun i hi => ?_⟩
  · rw [pa_ne _ _ (by simp), pa_ne _ _ (by simp)]; exact h.2.1 i hi
  · rw [pa_ne _ _ (by simp), pa_ne _ _ (by simp)]; exact h.2.2.1 j hj
  · rw [pa_ne _ _ (by simp), pa_ne _ _ (by simp [hi]), pa_ne _ _ (by simp)]; exact h.2.2.2 i hi
theorem mcf.p8 {r x : Nat} {a b : rx_Hp} (h : mcf r x a b) (v : Int32) : mcf r x a (rx_pa b 8 x v) := by
  refine ⟨h.1.pa (by decide), fun i hi => ?_, fun j hj => ?_, fun i hi => ?_⟩
  · rw [pa_ne _ _ (by simp), pa_ne _ _ (by simp)]; exact h.2.1 i hi
  · rw [pa_ne _ _ (by simp), pa_ne _ _ (by simp)]; exact h.2.2.1 j hj
  · rw [pa_ne _ _ (by simp), pa_ne _ _ (by simp), pa_ne _ _ (by simp [hi])]; exact h.2.2.2 i hi
theorem mcf.p5 {r x : Nat} {a b : rx_Hp} (h : mcf r x a b) (v : Int32) : mcf r x a (rx_pa b 5 r v) := by
  refine ⟨h.1.pa (by decide), fun i hi => ?_, fun j hj => ?_, fun i hi => ?_⟩
  · rw [pa_ne _ _ (by simp), pa_ne _ _ (by simp)]; exact h.2.1 i hi
  · rw [pa_ne _ _ (by simp), pa_ne _ _ (by simp [hj])]; exact h.2.2.1 j hj
  · rw [pa_ne _ _ (by simp), pa_ne _ _ (by simp), pa_ne _ _ (by simp)]; exact h.2.2.2 i hi
theorem MTk.pa {T : List Tk} {h : rx_Hp} (S : MTk r T h) {k i : Nat} {v : Int32} (hk : ¬ k = 2 ∧ ¬ k = 3 ∧ ¬ k = 4) : MTk r T (rx_pa h k i v) := by
  refine ⟨S.1, ?_, fun j t ht => ?_⟩
  · rw [pa_ne _ _ (fun z => hk.2.2 z.1.symm)]; exact S.2.1
  · rw [pa_ne _ _ (fun z => hk.1 z.1.symm), pa_ne _ _ (fun z => hk.2.1 z.1.symm)]; exact S.2.2 j t ht
theorem AtM.pa {p : Nat} {h : rx_Hp} (T : AtM n tb p h) {k i : Nat} {v : Int32} (hk : ¬ k = 1) : AtM n tb p (rx_pa h k i v) := ⟨⟨T.1.1, fun j hj => by rw [pa_ne _ _ (fun z => hk z.1.symm)]; exact T.1.2 j hj⟩, T.2⟩
theorem cla_m {G : rx_Gh} {F : rx_Hp → Prop} (ok : TOk n tb) (hr : r < 5) {p j : Nat} (hj90 : j < 90) {T : List Tk} {hm : rx_Hp} (hp : p ≤ n) (hT : T.length + (n - p) ≤ 160) (T0 : AtM n tb p hm) (hw : hm.1 0 4 = -1) (hd : hm.1 0 5 = 0) (S0 : MTk r T hm) (hj : hm.2.1 5 r = zI j) (Kl : ∀ e h', pCla n tb p = .inl e → h'.1 0 4 = zI e → mcf r (90 * r + j) hm h' → F h') (Kr : ∀ p' c h', pCla n tb p = .inr (p', c) → AtM n tb p' h' → h'.1 0 4 = -1 → h'.1 0 5 = 0 → MTk r (T ++ (c.1 ++ c.2)) h' → h'.2.1 5 r = zI ((j + 1 : Nat) : Int) → h'.2.1 6 (90 * r + j) = zI (T.length : Nat) → h'.2.1 7 (90 * r + j) = zI ((T.length + c.1.length : Nat) : Int) → h'.2.1 8 (90 * r + j) = zI ((T.length + c.1.length + c.2.length : Nat) : Int) → mcf r (90 * r + j) hm h' → F h') : Ev wM G 75 q_M_clause [.ref 0] hm (rV F) := by
  have o1 := ok.1
  have s1 := sk_ge (tb := tb) hp
  have s2 := sk_le (tb := tb) hp
  have cl1 := chA_le ok (sk n tb p)
  have eK : (90 * zI (r : Int)) + zI (j : Int) = zI ((90 * r + j : Nat) : Int) := by rw [show (90 : Int32) = zI 90 from by decide, zI_mul, zI_add]; rfl
  obtain ⟨x, hx⟩ : ∃ x, 90 * r + j = x := ⟨_, rfl⟩
  refine w_M_clause ?_
  rw [S0.1, zI_cN (by omega), hj, eK, zI_cN (by omega), hx]
  rw [hx] at Kl Kr
  have vK : vp_in (zI (x : Int)) 450 := vp_N (by omega) (by omega)
  have vr : vp_in (zI (r : Int)) 5 := vp_N (by omega) (by omega)
  refine ⟨vr, fun _ => look_m ok hp T0 (fun h1 T1 f1 => ?_), fun z => absurd hw z⟩
  have w1 : h1.1 0 4 = -1 := (f1.1 _ _ (by decide)).trans hw
  have fr1 : mcf r x hm h1 := mcf.of f1 (by decide)
  have q121 : zM (chA n tb (sk n tb p)) = 121 ↔ chA n tb (sk n tb p) = 121 := zM_eq cl1 (k := 121) (by omega) (by omega)
  unfold pCla at Kl Kr
  refine ⟨fun c1 => ?_, fun c1 => ?_⟩
  case refine_2 =>
    have c1 := mt q121.mpr c1
    rw [if_neg c1] at Kl
    obtain ⟨b1, b2'⟩ := bad_m T1 w1
    refine ⟨fun z => absurd (b1 ▸ z) (nz_e (by omega)), fun _ => ?_⟩
    have f : Fr mlF [] h1 (rx_pf (rx_pf (g_M_bad h1) 0 3 ((g_M_bad h1).1 0 3 + 1)) 0 3 ((g_M_bad h1).1 0 3 + 1 + 1)) := ((b2'.mono (by decide) (by decide) : Fr mlF [] h1 _).pf (by decide)).pf (by decide)
    refine Kl _ _ rfl ?_ (fr1.tr (mcf.of f (fun _ z => z)))
    rw [pf_ne _ _ (by decide), pf_ne _ _ (by decide)]; exact b1
  have c1 := q121.mp c1
  rw [if_pos c1] at Kl Kr
  have l1 := chA_lt c1 (by omega)
  have f2 : Fr [(0, 3)] [] h1 (rx_pf h1 0 3 (h1.1 0 3 + 1)) := Fr.rf.pf (by decide)
  have T2 : AtM n tb (sk n tb p + 1) (rx_pf h1 0 3 (h1.1 0 3 + 1)) := T1.to (by rw [T1.2]; exact zI_add _ 1)
  have s3 := sk_ge (n := n) (tb := tb) (p := sk n tb p + 1) (by omega)
  have s4 := sk_le (n := n) (tb := tb) (p := sk n tb p + 1) (by omega)
  have cl2 := chA_le ok (sk n tb (sk n tb p + 1))
  refine ⟨fun _ => look_m ok (by omega) T2 (fun h3 T3 f3 => ?_), fun z => absurd w1 z⟩
  have fr3 : mcf r x hm h3 := fr1.tr ((mcf.of f2 (by decide)).tr (mcf.of f3 (by decide)))
  have w3 : h3.1 0 4 = -1 := (f3.1 _ _ (by decide)).trans (by rw [pf_ne _ _ (by decide)]; exact w1)
  have S3 : MTk r T h3 := ((S0.of f1).of f2).of f3
  have d3 : h3.1 0 5 = 0 := (f3.1 _ _ (by decide)).trans (by rw [pf_ne _ _ (by decide), f1.1 _ _ (by decide)]; exact hd)
  have j3 : h3.2.1 5 r = zI j := by rw [f3.2.1 5 (by simp), pf_a, f1.2.1 5 (by simp)]; exact hj
  have q58 : zM (chA n tb (sk n tb (sk n tb p + 1))) = 58 ↔ chA n tb (sk n tb (sk n tb p + 1)) = 58 := zM_eq cl2 (k := 58) (by omega) (by omega)
  refine ⟨fun c2 => ?_, fun c2 => ?_⟩
  case refine_2 =>
    have c2 := mt q58.mpr c2
    rw [if_neg c2] at Kl
    obtain ⟨b1, b2'⟩ := bad_m T3 w3
    refine ⟨fun z => absurd (b1 ▸ z) (nz_e (by omega)), fun _ => ?_⟩
    have f : Fr mlF [] h3 (rx_pf (g_M_bad h3) 0 3 ((g_M_bad h3).1 0 3 + 1)) := (b2'.mono (by decide) (by decide) : Fr mlF [] h3 _).pf (by decide)
    refine Kl _ _ rfl ?_ (fr3.tr (mcf.of f (fun _ z => z)))
    rw [pf_ne _ _ (by decide)]; exact b1
  have c2 := q58.mp c2
  rw [if_pos c2] at Kl Kr
  have l2 := chA_lt c2 (by omega)
  have s5 := sk_ge (n := n) (tb := tb) (p := sk n tb (sk n tb p + 1) + 1) (by omega)
  have s6 := sk_le (n := n) (tb := tb) (p := sk n tb (sk n tb p + 1) + 1) (by omega)
  have cl3 := chA_le ok (sk n tb (sk n tb (sk n tb p + 1) + 1))
  rw [S3.1, zI_cN (by omega), S3.2.1]
  refine ⟨fun _ => ⟨vr, vK, ?_⟩, fun z => absurd w3 z⟩
  have f4 : Fr [(0, 3)] [] h3 (rx_pf h3 0 3 (h3.1 0 3 + 1)) := Fr.rf.pf (by decide)
  have T4 : AtM n tb (sk n tb (sk n tb p + 1) + 1) (rx_pa (rx_pf h3 0 3 (h3.1 0 3 + 1)) 6 x (zI (T.length : Nat))) := AtM.pa (T3.to (by rw [T3.2]; exact zI_add _ 1)) (by decide)
  refine look_m ok (by omega) T4 (fun h5 T5 f5 => ?_)
  have fr5 : mcf r x hm h5 := (((fr3.tr (mcf.of f4 (by decide))).p6 _)).tr (mcf.of f5 (by decide))
  have w5 : h5.1 0 4 = -1 := (f5.1 _ _ (by decide)).trans (by rw [pa_f, pf_ne _ _ (by decide)]; exact w3)
  have d5 : h5.1 0 5 = 0 := (f5.1 _ _ (by decide)).trans (by rw [pa_f, pf_ne _ _ (by decide)]; exact d3)
  have S5 : MTk r T h5 := ((S3.of f4).pa (by decide)).of f5
  have j5 : h5.2.1 5 r = zI j := by rw [f5.2.1 5 (by simp), pa_ne _ _ (by simp), pf_a]; exact j3
  have x5 : h5.2.1 6 x = zI (T.length : Nat) := by rw [f5.2.1 6 (by simp), pa_same]
  obtain ⟨q, hq⟩ : ∃ q, sk n tb (sk n tb (sk n tb p + 1) + 1) = q := ⟨_, rfl⟩
  have hqq : sk n tb q = q := by rw [← hq, sk_sk (by omega)]
  rw [hq] at Kl Kr T5 s5 s6 cl3 ⊢
  have q33 : zM (chA n tb q) = 33 ↔ chA n tb q = 33 := zM_eq cl3 (k := 33) (by omega) (by omega)
  -- the ends
  have endF : ∀ (e : Nat) (h7 : rx_Hp) (v1 v2 v3 : Int32), h7.1 0 4 = zI e → h7.1 0 14 = zI r → mcf r x hm h7 → (∀ h', h'.1 0 4 = zI e → mcf r x hm h' → F h') → vp_in (h7.1 0 14) 5 ∧ F (rx_pa (rx_pa (rx_pa h7 7 x v1) 8 x v2) 5 ((h7.1 0 14).toNatClampNeg) v3) := by
    intro e h7 v1 v2 v3 w7 r7 f7 K
    rw [r7, zI_cN (by omega)]
    exact ⟨vr, K _ w7 (((f7.p7 _).p8 _).p5 _)⟩
  have tail : ∀ (p1 : Nat) (c : List Tk) (h7 : rx_Hp), q < p1 → p1 ≤ n → q + c.length ≤ p1 → AtM n tb p1 h7 → h7.1 0 4 = -1 → h7.1 0 5 = 0 → MTk r (T ++ c) h7 → h7.2.1 5 r = zI j → h7.2.1 6 x = zI (T.length : Nat) → mcf r x hm h7 → (∀ e h', qSm n tb (.inr (p1, c)) = .inl e → h'.1 0 4 = zI e → mcf r x hm h' → F h') → (∀ p' c' h', qSm n tb (.inr (p1, c)) = .inr (p', c') → AtM n tb p' h' → h'.1 0 4 = -1 → h'.1 0 5 = 0 → MTk r (T ++ (c'.1 ++ c'.2)) h' → h'.2.1 5 r = zI ((j + 1 : Nat) : Int) → h'.2.1 6 x = zI (T.length : Nat) → h'.2.1 7 x = zI ((T.length + c'.1.length : Nat) : Int) → h'.2.1 8 x = zI ((T.length + c'.1.length + c'.2.length : Nat) : Int) → mcf r x hm h' → F h') → Ev wM G 2 q_M_look [.ref 0] (rx_pa h7 7 x (h7.2.1 6 x)) (rI fun r9 h8 => (r9 = 63 → vp_in (h8.1 0 14) 5 ∧ (Ev wM G 36 q_M_sum [.ref 0] (rx_pa (rx_pf h8 0 3 ((h8.1 0 3) + 1)) 7 x (h8.2.1 4 (h8.1 0 14).toNatClampNeg)) (rV fun h10 => vp_in (h10.1 0 14) 5 ∧ (F (rx_pa (rx_pa h10 8 x (h10.2.1 4 (h10.1 0 14).toNatClampNeg)) 5 ((h10.1 0 14).toNatClampNeg) ((h10.2.1 5 (h10.1 0 14).toNatClampNeg) + 1)))))) ∧ (¬ r9 = 63 → F (g_M_bad h8))) := by
    intro p1 c h7 a1 a2 a3 T7 w7 d7 S7 j7 x7 f7 Kl Kr
    have s7 := sk_ge (n := n) (tb := tb) a2
    have s8 := sk_le (n := n) (tb := tb) a2
    have cl4 := chA_le ok (sk n tb p1)
    refine look_m ok a2 (T7.pa (by decide)) (fun h8 T8 f8 => ?_)
    have fr8 : mcf r x hm h8 := (f7.p7 _).tr (mcf.of f8 (by decide))
    have w8 : h8.1 0 4 = -1 := (f8.1 _ _ (by decide)).trans w7
    have d8 : h8.1 0 5 = 0 := (f8.1 _ _ (by decide)).trans d7
    have S8 : MTk r (T ++ c) h8 := (S7.pa (by decide)).of f8
    have j8 : h8.2.1 5 r = zI j := by rw [f8.2.1 5 (by simp), pa_ne _ _ (by simp)]; exact j7
    have x8 : h8.2.1 6 x = zI (T.length : Nat) := by rw [f8.2.1 6 (by simp), pa_ne _ _ (by simp)]; exact x7
    have q63 : zM (chA n tb (sk n tb p1)) = 63 ↔ chA n tb (sk n tb p1) = 63 := zM_eq cl4 (k := 63) (by omega) (by omega)
    unfold qSm at Kl Kr
    simp only at Kl Kr
    refine ⟨fun c3 => ?_, fun c3 => ?_⟩
    · have c3 := q63.mp c3
      rw [if_pos c3] at Kl Kr
      have l3 := chA_lt c3 (by omega)
      rw [S8.1, zI_cN (by omega), S8.2.1]
      refine ⟨vr, ?_⟩
      have f9 : Fr [(0, 3)] [] h8 (rx_pf h8 0 3 (h8.1 0 3 + 1)) := Fr.rf.pf (by decide)
      have fr9 : mcf r x hm (rx_pa (rx_pf h8 0 3 (h8.1 0 3 + 1)) 7 x (zI ((T ++ c).length : Nat))) := (fr8.tr (mcf.of f9 (by decide))).p7 _
      have T9 : AtM n tb (sk n tb p1 + 1) (rx_pa (rx_pf h8 0 3 (h8.1 0 3 + 1)) 7 x (zI ((T ++ c).length : Nat))) := AtM.pa (T8.to (by rw [T8.2]; exact zI_add _ 1)) (by decide)
      obtain ⟨g1, g2⟩ := gd_S ok 6 (sk n tb p1 + 1) (by omega)
      refine sum_mm ok hr 6 (by omega) _ (sk n tb p1 + 1) (T ++ c) _ (by omega) (by rw [List.length_append]; omega) T9 (by rw [pa_f, pf_ne _ _ (by decide)]; exact w8) (by rw [pa_f, pf_ne _ _ (by decide)]; exact d8) ((S8.of f9).pa (by decide)) (fun e h10 he w10 B10 f10 => ?_) (fun p2 t h10 he T10 w10 d10 S10 f10 => ?_)
      · rw [he] at Kl
        rw [B10.1, zI_cN (by omega)]
        exact ⟨vr, Kl e _ rfl w10 (((fr9.tr (mcf.m f10)).p8 _).p5 _)⟩
      · obtain ⟨b1, b2', b3, b4⟩ := g2 p2 t he
        rw [he] at Kr
        simp only at Kr
        have j10 : h10.2.1 5 r = zI j := by rw [f10.1.2.1 5 (by decide), pa_ne _ _ (by simp), pf_a]; exact j8
        rw [S10.1, zI_cN (by omega), S10.2.1, j10, show zI (j : Int) + 1 = zI ((j + 1 : Nat) : Int) from zI_add j 1]
        refine ⟨vr, Kr p2 (c, t) _ rfl ((T10.pa (by decide)).pa (by decide)) w10 d10 ?_ ?_ ?_ ?_ ?_ (((fr9.tr (mcf.m f10)).p8 _).p5 _)⟩
        · show MTk r (T ++ (c ++ t)) _
          rw [← List.append_assoc]
          exact (S10.pa (by decide)).pa (by decide)
        · rw [pa_same]
        · rw [pa_ne _ _ (by simp), pa_ne _ _ (by simp), f10.1.2.1 6 (by decide), pa_ne _ _ (by simp), pf_a]; exact x8
        · rw [pa_ne _ _ (by simp), pa_ne _ _ (by simp), f10.1.2.1 7 (by decide), pa_same, List.length_append]
        · rw [pa_ne _ _ (by simp), pa_same, List.length_append, List.length_append]
    · have c3 := mt q63.mpr c3
      rw [if_neg c3] at Kl
      obtain ⟨b1, b2'⟩ := bad_m T8 w8
      exact Kl _ _ rfl b1 (fr8.tr (mcf.of b2' (by decide)))
  -- a condition first
  have cond : ∀ (h7 : rx_Hp), (chA n tb q = 33 ∨ chA n tb q = 40) → AtM n tb q h7 → h7.1 0 4 = -1 → h7.1 0 5 = 0 → MTk r T h7 → h7.2.1 5 r = zI j → h7.2.1 6 x = zI (T.length : Nat) → mcf r x hm h7 → Ev wM G 67 q_M_condition [.ref 0] h7 (rV fun h7 => ((h7.1 0 4) = (-1) → Ev wM G 2 q_M_look [.ref 0] (rx_pa h7 7 x (h7.2.1 6 x)) (rI fun r9 h8 => (r9 = 63 → vp_in (h8.1 0 14) 5 ∧ (Ev wM G 36 q_M_sum [.ref 0] (rx_pa (rx_pf h8 0 3 ((h8.1 0 3) + 1)) 7 x (h8.2.1 4 (h8.1 0 14).toNatClampNeg)) (rV fun h10 => vp_in (h10.1 0 14) 5 ∧ (F (rx_pa (rx_pa h10 8 x (h10.2.1 4 (h10.1 0 14).toNatClampNeg)) 5 ((h10.1 0 14).toNatClampNeg) ((h10.2.1 5 (h10.1 0 14).toNatClampNeg) + 1)))))) ∧ (¬ r9 = 63 → F (g_M_bad h8)))) ∧ (¬ (h7.1 0 4) = (-1) → vp_in (h7.1 0 14) 5 ∧ (F (rx_pa (rx_pa (rx_pa h7 7 x (h7.2.1 6 x)) 8 x (h7.2.1 4 (h7.1 0 14).toNatClampNeg)) 5 ((h7.1 0 14).toNatClampNeg) ((h7.2.1 5 (h7.1 0 14).toNatClampNeg) + 1))))) := by
    intro h7 h3' T7 w7 d7 S7 j7 x7 f7
    rw [if_pos h3'] at Kl Kr
    have g := gd_cd (n := n) (tb := tb) _ (fun q hq => gd_U ok 6 q hq) (gd_U ok 6 q s6)
    refine cond_m ok hr (k := 6) (by omega) (unit_mm ok hr 6 (by omega)) _ q T h7 s6 (by omega) T7 w7 d7 S7 (fun e h8 he w8 B8 f8 => ?_) (fun p1 c h8 he T8 w8 d8 S8 f8 => ?_)
    · have ge := g.1 e he
      rw [he] at Kl
      exact ⟨fun z => absurd (w8 ▸ z) (nz_e (by omega)), fun _ => endF e h8 _ _ _ w8 B8.1 (f7.tr (mcf.m f8)) (fun h' => Kl e h' rfl)⟩
    · obtain ⟨a1, a2, a3, a4⟩ := g.2 p1 c he
      rw [he] at Kl Kr
      refine ⟨fun _ => ?_, fun z => absurd w8 z⟩
      exact tail p1 c h8 a1 a2 a3 T8 w8 d8 S8 (by rw [f8.1.2.1 5 (by decide)]; exact j7) (by rw [f8.1.2.1 6 (by decide)]; exact x7) (f7.tr (mcf.m f8)) Kl Kr
  refine ⟨fun c3 => cond h5 (Or.inl (q33.mp c3)) T5 w5 d5 S5 j5 x5 fr5, fun c3 => look_m ok s6 T5 (fun h11 T11 f11 => ?_)⟩
  have c3 := mt q33.mpr c3
  rw [hqq] at T11 ⊢
  have fr11 : mcf r x hm h11 := fr5.tr (mcf.of f11 (by decide))
  have w11 : h11.1 0 4 = -1 := (f11.1 _ _ (by decide)).trans w5
  have d11 : h11.1 0 5 = 0 := (f11.1 _ _ (by decide)).trans d5
  have S11 : MTk r T h11 := S5.of f11
  have j11 : h11.2.1 5 r = zI j := by rw [f11.2.1 5 (by simp)]; exact j5
  have x11 : h11.2.1 6 x = zI (T.length : Nat) := by rw [f11.2.1 6 (by simp)]; exact x5
  have q40 : zM (chA n tb q) = 40 ↔ chA n tb q = 40 := zM_eq cl3 (k := 40) (by omega) (by omega)
  by_cases h40 : chA n tb q = 40
  · have ej : ((if zM (chA n tb q) = 40 then 1 else 0) : Int32) = 1 := if_pos (q40.mpr h40)
    rw [ej]
    exact ⟨fun z => absurd z (by decide), fun _ => cond h11 (Or.inr h40) T11 w11 d11 S11 j11 x11 fr11⟩
  · have ej : ((if zM (chA n tb q) = 40 then 1 else 0) : Int32) = 0 := if_neg (mt q40.mp h40)
    rw [ej]
    have h3n : ¬ (chA n tb q = 33 ∨ chA n tb q = 40) := by rintro (z | z); exact c3 z; exact h40 z
    rw [if_neg h3n] at Kl Kr
    refine ⟨fun _ => ?_, fun z => absurd rfl z⟩
    obtain ⟨g1, g2⟩ := gd_S ok 6 q s6
    refine sum_mm ok hr 6 (by omega) _ q T h11 s6 (by omega) T11 w11 d11 S11 (fun e h13 he w13 B13 f13 => ?_) (fun p1 t h13 he T13 w13 d13 S13 f13 => ?_)
    · have ge := g1 e he
      rw [he] at Kl
      exact ⟨fun z => absurd (w13 ▸ z) (nz_e (by omega)), fun _ => endF e h13 _ _ _ w13 B13.1 (fr11.tr (mcf.m f13)) (fun h' => Kl e h' rfl)⟩
    · obtain ⟨a1, a2, a3, a4⟩ := g2 p1 t he
      rw [he] at Kl Kr
      simp only at Kl Kr
      have s7 := sk_ge (n := n) (tb := tb) a2
      have s8 := sk_le (n := n) (tb := tb) a2
      have cl4 := chA_le ok (sk n tb p1)
      refine ⟨fun _ => look_m ok a2 T13 (fun h14 T14 f14 => ?_), fun z => absurd w13 z⟩
      have fr14 : mcf r x hm h14 := fr11.tr ((mcf.m f13).tr (mcf.of f14 (by decide)))
      have w14 : h14.1 0 4 = -1 := (f14.1 _ _ (by decide)).trans w13
      have d14 : h14.1 0 5 = 0 := (f14.1 _ _ (by decide)).trans d13
      have S14 : MTk r (T ++ t) h14 := S13.of f14
      have j14 : h14.2.1 5 r = zI j := by rw [f14.2.1 5 (by simp), f13.1.2.1 5 (by decide)]; exact j11
      have x14 : h14.2.1 6 x = zI (T.length : Nat) := by rw [f14.2.1 6 (by simp), f13.1.2.1 6 (by decide)]; exact x11
      have sg := (sig_m ⟨chA n tb (sk n tb p1), by omega⟩).1
      simp only at sg
      rw [sg]
      by_cases h4 : isS (chA n tb (sk n tb p1)) = true
      · rw [if_neg (show ¬ b2 (isS (chA n tb (sk n tb p1))) = 0 by rw [h4]; decide)]
        refine ⟨fun z => absurd z (by decide), fun _ => ?_⟩
        rw [if_pos h4] at Kl Kr
        have ec : cdT n tb (uU n tb 6) (cmP n tb 6 p1 t) = cdT n tb (uU n tb 6) (bnd (cmQ n tb 6 p1) (fun p x => .inr (p, t ++ x))) := by rw [cmP_Q]
        have es : cmQ n tb 6 (sk n tb p1) = cmQ n tb 6 p1 := by unfold cmQ; rw [sk_sk a2]
        have gv : gd n vC q (cdT n tb (uU n tb 6) (cmP n tb 6 p1 t)) := by
          refine gd_cd _ (fun q hq => gd_U ok 6 q hq) ?_
          have gg : gd n vC q (bnd (sS n tb 6 q) (cmP n tb 6)) := gd_bnd (gd_S ok 6 q s6) (fun p' t _ _ a2 _ a4 => gl_cmp ok 6 a2 a4)
          rw [he, bnd_r] at gg
          exact gg
        have gq := gd_cmQ (n := n) (tb := tb) ok 6 a2
        refine cmp_m ok hr (k := 6) (by omega) (sum_mm ok hr 6 (by omega)) _ (sk n tb p1) (T ++ t) h14 s8 (by rw [List.length_append]; omega) T14 w14 d14 S14 (fun e h16 he2 w16 B16 f16 => ?_) (fun p2 t2 h16 he2 T16 w16 d16 S16 f16 => ?_)
        · rw [es] at he2
          have ge := gq.1 e he2
          rw [ec, he2] at Kl
          refine ga_f (d := 24) (e := e) (by omega) w16 (go_f (d := 24) (e := e) (by omega) w16 ?_)
          exact ⟨fun z => absurd (w16 ▸ z) (nz_e (by omega)), fun _ => endF e h16 _ _ _ w16 B16.1 (fr14.tr (mcf.m f16)) (fun h' => Kl e h' rfl)⟩
        · rw [es] at he2
          obtain ⟨b1, b2', b3, -⟩ := gq.2 p2 t2 he2
          rw [ec, he2, bnd_r] at Kl Kr gv
          rw [List.append_assoc] at S16
          refine gao_m ok hr (k := 6) (by omega) (unit_mm ok hr 6 (by omega)) (T := T) (t := t ++ t2) b2' (by rw [List.length_append]; omega) T16 w16 d16 S16 (fun e h18 he3 w18 B18 f18 => ?_) (fun p3 c h18 he3 T18 w18 d18 S18 f18 => ?_)
          · have ge := gv.1 e he3
            rw [he3] at Kl
            exact ⟨fun z => absurd (w18 ▸ z) (nz_e (by omega)), fun _ => endF e h18 _ _ _ w18 B18.1 (fr14.tr ((mcf.m f16).tr (mcf.m f18))) (fun h' => Kl e h' rfl)⟩
          · obtain ⟨e1, e2, e3, e4⟩ := gv.2 p3 c he3
            rw [he3] at Kl Kr
            refine ⟨fun _ => ?_, fun z => absurd w18 z⟩
            exact tail p3 c h18 e1 e2 e3 T18 w18 d18 S18 (by rw [f18.1.2.1 5 (by decide), f16.1.2.1 5 (by decide)]; exact j14) (by rw [f18.1.2.1 6 (by decide), f16.1.2.1 6 (by decide)]; exact x14) (fr14.tr ((mcf.m f16).tr (mcf.m f18))) Kl Kr
      · have h4' : isS (chA n tb (sk n tb p1)) = false := by
          cases z : isS (chA n tb (sk n tb p1)) with
          | false => rfl
          | true => exact absurd z h4
        rw [if_pos (show b2 (isS (chA n tb (sk n tb p1))) = 0 by rw [h4']; rfl)]
        rw [if_neg h4] at Kr
        refine ⟨fun _ => ?_, fun z => absurd rfl z⟩
        rw [S14.1, zI_cN (by omega), x14, S14.2.1, j14, show zI (j : Int) + 1 = zI ((j + 1 : Nat) : Int) from zI_add j 1]
        refine ⟨vr, Kr _ _ _ rfl (((T14.pa (by decide)).pa (by decide)).pa (by decide)) w14 d14 (((S14.pa (by decide)).pa (by decide)).pa (by decide)) ?_ ?_ ?_ ?_ (((fr14.p7 _).p8 _).p5 _)⟩
        · rw [pa_same]
        · rw [pa_ne _ _ (by simp), pa_ne _ _ (by simp), pa_ne _ _ (by simp)]; exact x14
        · rw [pa_ne _ _ (by simp), pa_ne _ _ (by simp), pa_same]; rfl
        · rw [pa_ne _ _ (by simp), pa_same, List.length_append]; rfl
end LRO

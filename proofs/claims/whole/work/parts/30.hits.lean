/-! hits, the class's side -/
section HIC
variable {nb w h g t : Nat} {X Y A : Nat → Nat} {hc : rx_Hp}
def hFi (s : Option (Int × Int × Int)) (hp : rx_Hp) : Prop := ∀ a i j, s = some (a, i, j) → hp.1 44 2 = zI i ∧ hp.1 44 3 = zI j
theorem hits_in_c {G : rx_Gh} {F : Int32 → rx_Hp → Prop} (ok : HOk nb w h g t X Y A) (H : HC nb w h g t X Y A hc) {b o : Nat} (hb : b < nb) (ho : o < nb) {r u : Int} (hr : -9 ≤ r ∧ r ≤ 9) (hu : -9 ≤ u ∧ u ≤ 9) {i : Int} (hi : -10 ≤ i ∧ i ≤ 10) :
    ∀ (m : Nat) (j : Int) (s : Option (Int × Int × Int)) (hp : rx_Hp), j + m = 11 → -10 ≤ j → hInv s → Fr [(44, 2), (44, 3)] [] hc hp → hFi s hp →
      (∀ s' hp', s' = foldUp (hSt w h X Y b o r u i) j m s → hInv s' → Fr [(44, 2), (44, 3)] [] hc hp' → hFi s' hp' → Rn wC G 3 q_Ba_findFirst 10 [some (.ref 44), some (.int (zI b)), some (.int (zI r)), some (.int (zI u)), some (.int (zI o)), some (.int (h9 s')), some (.int (hg s')), some (.int (zI i + 1)), none, none, none, none, none] [] hp' (rI F)) →
      Rn wC G 3 q_Ba_findFirst 55 [some (.ref 44), some (.int (zI b)), some (.int (zI r)), some (.int (zI u)), some (.int (zI o)), some (.int (h9 s)), some (.int (hg s)), some (.int (zI i)), some (.int (zI (spI i w (X o) - X b))), some (.int (zI j)), none, none, none] [] hp (rI F) := by
  have h6 := ok.1
  have e10 : (10 : Int32) = zI 10 := by decide
  have e0 : (0 : Int32) = zI 0 := by decide
  intro m
  induction m with
  | zero =>
    intro j s hp hj _ hs hf hfi K
    have hc : 10 < zI j := by rw [e10, zI_lt (by omega) (by omega)]; omega
    exact w_Ba_findFirst_55 _ _ _ _ _ _ _ _ _ ⟨fun _ => K s hp rfl hs hf hfi, fun c => absurd hc c⟩
  | succ m ih =>
    intro j s hp hj hj2 hs hf hfi K
    have hj' : -10 ≤ j ∧ j ≤ 10 := by omega
    have hcj : ¬ 10 < zI j := by rw [e10, zI_lt (by omega) (by omega)]; omega
    have H' := H.fr hf
    refine w_Ba_findFirst_55 _ _ _ _ _ _ _ _ _ ⟨fun c => absurd c hcj, fun _ => ?_⟩
    refine ⟨vp_N (by omega) (by omega), vp_N (by omega) (by omega), ?_⟩
    obtain ⟨bd1, bd2, bd3⟩ := hbd ok hb ho hr hu hi hj'
    have ey : f_Ha_spot (zI j) (hp.1 3 6) (hp.2.1 5 (zI (o : Int)).toNatClampNeg) - hp.2.1 5 (zI (b : Int)).toNatClampNeg = zI (spI j h (Y o) - Y b) := by
      rw [zI_cN (by omega), zI_cN (by omega), (H'.2.1 b hb).2.1, (H'.2.1 o ho).2.1, H'.1.2.2.1, spot_c hj'.1 hj'.2, zI_sub]
    have K' := fun hp1 f1 f2 => ih (j + 1) (hSt w h X Y b o r u i j s) hp1 (by omega) (by omega) (hSt_inv ok hb ho hr hu hi hj' hs) f1 f2 (fun s' hp' e => K s' hp' (by rw [foldUp]; exact e))
    rw [ey]
    simp only [zI_mul, zI_add]
    have ej : zI j + 1 = zI (j + 1) := zI_add j 1
    rw [ej]
    rw [Int.mul_comm (spI i w (X o) - X b) u, Int.mul_comm (spI j h (Y o) - Y b) r, Int.mul_comm (spI i w (X o) - X b) r, Int.mul_comm (spI j h (Y o) - Y b) u]
    have cEq : (zI (u * (spI i w (X o) - X b)) = zI (r * (spI j h (Y o) - Y b))) ↔ r * (spI j h (Y o) - Y b) = u * (spI i w (X o) - X b) := (zI_eq (by omega) (by omega)).trans eq_comm
    have cPos : (0 < zI (r * (spI i w (X o) - X b) + u * (spI j h (Y o) - Y b))) ↔ 0 < r * (spI i w (X o) - X b) + u * (spI j h (Y o) - Y b) := by rw [e0]; exact zI_lt (by omega) (by omega)
    have S0 : ¬ (r * (spI j h (Y o) - Y b) = u * (spI i w (X o) - X b) ∧ 0 < r * (spI i w (X o) - X b) + u * (spI j h (Y o) - Y b)) → hSt w h X Y b o r u i j s = s := fun q => by unfold hSt; rw [if_neg q]
    have S1 : (r * (spI j h (Y o) - Y b) = u * (spI i w (X o) - X b) ∧ 0 < r * (spI i w (X o) - X b) + u * (spI j h (Y o) - Y b)) → hSt w h X Y b o r u i j s = hPk (r * (spI i w (X o) - X b) + u * (spI j h (Y o) - Y b)) i j s := fun q => by unfold hSt; rw [if_pos q]
    generalize r * (spI i w (X o) - X b) + u * (spI j h (Y o) - Y b) = al at *
    generalize r * (spI j h (Y o) - Y b) = p1 at *
    generalize u * (spI i w (X o) - X b) = p2 at *
    generalize hSt w h X Y b o r u i j s = s1 at *
    have hgl := gl_c hi hj'
    have fN : Fr [(44, 2), (44, 3)] [] hc (rx_pf (rx_pf hp 44 2 (zI i)) 44 3 (zI j)) := (hf.pf (by decide)).pf (by decide)
    have fF : hFi (some (al, i, j)) (rx_pf (rx_pf hp 44 2 (zI i)) 44 3 (zI j)) := by
      intro a i' j' e
      cases e
      exact ⟨by rw [pf_ne _ _ (by decide), pf_same], by rw [pf_same]⟩
    have g2 := glI_le hi hj'
    refine ⟨fun c => ⟨fun c2 => ?_, fun c2 => ?_⟩, fun c => ?_⟩
    · have q : p1 = p2 ∧ 0 < al := ⟨cEq.mp c, cPos.mp c2⟩
      have S1 := S1 q
      cases s with
      | none =>
        rw [hPk] at S1
        subst S1
        have := K' _ fN fF
        rw [show h9 (none : Option (Int × Int × Int)) = 0 from rfl, if_pos rfl, hgl]
        exact ⟨fun z => absurd z (by decide), fun _ => this⟩
      | some v =>
        obtain ⟨a, i0, j0⟩ := v
        obtain ⟨v1, v2, v3, v4⟩ := hs a i0 j0 rfl
        have g1 := glI_le v3 v4
        have c0 : ¬ h9 (some (a, i0, j0)) = 0 := by
          show ¬ zI a = 0
          rw [e0, zI_eq (by omega) (by omega)]; omega
        have cLe : (h9 (some (a, i0, j0)) ≤ zI al) ↔ a ≤ al := zI_le (by omega) (by omega)
        have cE2 : (zI al = h9 (some (a, i0, j0))) ↔ al = a := zI_eq (by omega) (by omega)
        have cG : (hg (some (a, i0, j0)) ≤ f_GR_glasses (zI i) (zI j)) ↔ glI i0 j0 ≤ glI i j := by
          show zI _ ≤ _ ↔ _
          rw [hgl, zI_le (by omega) (by omega)]
          omega
        rw [if_neg c0]
        rw [hPk] at S1
        refine ⟨fun c3 => ⟨fun c4 => ⟨fun c5 => ?_, fun c5 => ?_⟩, fun c4 => ?_⟩, fun c3 => ?_⟩
        · have q1 := cE2.mp c4
          have q2 := cG.mp c5
          rw [if_neg (by omega)] at S1
          subst S1
          exact K' _ hf hfi
        · have q1 := cE2.mp c4
          have q2 := mtn cG c5
          rw [if_pos (by omega)] at S1
          subst S1
          have := K' _ fN fF
          rw [hgl]
          exact this
        · have q1 := mtn cE2 c4
          have q2 : a ≤ al := by
            refine Decidable.byContradiction (fun z => ?_)
            rw [if_neg (fun y => z (cLe.mp y))] at c3
            exact absurd c3 (by decide)
          rw [if_neg (by omega)] at S1
          subst S1
          exact K' _ hf hfi
        · have q2 : ¬ a ≤ al := fun z => c3 (by rw [if_pos (cLe.mpr z)])
          rw [if_pos (by omega)] at S1
          subst S1
          have := K' _ fN fF
          rw [hgl]
          exact this
    · have S0 := S0 (fun q => c2 (cPos.mpr q.2))
      subst S0
      exact K' _ hf hfi
    · have S0 := S0 (fun q => c (cEq.mpr q.1))
      subst S0
      exact K' _ hf hfi
theorem hits_out_c {G : rx_Gh} {F : Int32 → rx_Hp → Prop} (ok : HOk nb w h g t X Y A) (H : HC nb w h g t X Y A hc) {b o : Nat} (hb : b < nb) (ho : o < nb) {r u : Int} (hr : -9 ≤ r ∧ r ≤ 9) (hu : -9 ≤ u ∧ u ≤ 9) :
    ∀ (m : Nat) (i : Int) (s : Option (Int × Int × Int)) (hp : rx_Hp), i + m = 11 → -10 ≤ i → hInv s → Fr [(44, 2), (44, 3)] [] hc hp → hFi s hp →
      (∀ s' hp', s' = foldUp (hOut w h X Y b o r u) i m s → hInv s' → Fr [(44, 2), (44, 3)] [] hc hp' → hFi s' hp' → F (b2 s'.isSome) hp') →
      Rn wC G 3 q_Ba_findFirst 10 [some (.ref 44), some (.int (zI b)), some (.int (zI r)), some (.int (zI u)), some (.int (zI o)), some (.int (h9 s)), some (.int (hg s)), some (.int (zI i)), none, none, none, none, none] [] hp (rI F) := by
  have h6 := ok.1
  have e10 : (10 : Int32) = zI 10 := by decide
  have e0 : (0 : Int32) = zI 0 := by decide
  intro m
  induction m with
  | zero =>
    intro i s hp hi _ hs hf hfi K
    have hc : 10 < zI i := by rw [e10, zI_lt (by omega) (by omega)]; omega
    refine w_Ba_findFirst_10 _ _ _ _ _ _ _ ⟨fun _ => ?_, fun c => absurd hc c⟩
    have K := K s hp rfl hs hf hfi
    cases s with
    | none => exact K
    | some v =>
      obtain ⟨a, i0, j0⟩ := v
      obtain ⟨v1, v2, v3, v4⟩ := hs a i0 j0 rfl
      show F (if zI a ≤ 0 then 0 else 1) hp
      rw [if_neg (show ¬ zI a ≤ 0 by rw [e0, zI_le (by omega) (by omega)]; omega)]
      exact K
  | succ m ih =>
    intro i s hp hi hi2 hs hf hfi K
    have hcj : ¬ 10 < zI i := by rw [e10, zI_lt (by omega) (by omega)]; omega
    have H' := H.fr hf
    refine w_Ba_findFirst_10 _ _ _ _ _ _ _ ⟨fun c => absurd c hcj, fun _ => ⟨vp_N (by omega) (by omega), vp_N (by omega) (by omega), ?_⟩⟩
    have ex : f_Ha_spot (zI i) (hp.1 3 5) (hp.2.1 4 (zI (o : Int)).toNatClampNeg) - hp.2.1 4 (zI (b : Int)).toNatClampNeg = zI (spI i w (X o) - X b) := by
      rw [zI_cN (by omega), zI_cN (by omega), (H'.2.1 b hb).1, (H'.2.1 o ho).1, H'.1.2.1, spot_c (by omega) (by omega), zI_sub]
    rw [ex]
    refine hits_in_c (i := i) ok H hb ho hr hu (by omega) 21 (-10) s hp (by omega) (by omega) hs hf hfi (fun s' hp' e hs' hf' hfi' => ?_)
    rw [show zI i + 1 = zI (i + 1) from zI_add i 1]
    exact ih (i + 1) s' hp' (by omega) (by omega) hs' hf' hfi' (fun s2 hp2 e2 => K s2 hp2 (by rw [e2, e, foldUp]; rfl))
def wayI (r u : Int32) : Bool := (decide (-9 ≤ r.toInt) && decide (r.toInt ≤ 9)) && ((decide (-9 ≤ u.toInt) && decide (u.toInt ≤ 9)) && !(decide (r = 0) && decide (u = 0)))
theorem way_c (r u : Int32) : f_GR_isWay r u = b2 (wayI r u) := by
  unfold f_GR_isWay wayI
  rw [show (-9 : Int32) = zI (-9) from by decide, show (9 : Int32) = zI 9 from by decide]
  simp only [i_lt r (-9) (by omega), i_lt' r 9 (by omega), i_lt u (-9) (by omega), i_lt' u 9 (by omega)]
  by_cases q1 : r.toInt < -9
  · simp [b2, q1]; omega
  · by_cases q2 : 9 < r.toInt
    · simp [b2, q1, q2]; omega
    · by_cases q3 : u.toInt < -9
      · simp [b2, q1, q2, q3]; omega
      · by_cases q4 : 9 < u.toInt
        · simp [b2, q1, q2, q3, q4]; try omega
        · have z1 : -9 ≤ r.toInt := by omega
          have z2 : r.toInt ≤ 9 := by omega
          have z3 : -9 ≤ u.toInt := by omega
          have z4 : u.toInt ≤ 9 := by omega
          by_cases q5 : r = 0
          · by_cases q6 : u = 0
            · simp [b2, q1, q2, q3, q4, q5, q6]
            · simp [b2, q1, q2, q3, q4, q5, q6, z1, z2, z3, z4]
          · simp [b2, q1, q2, q3, q4, q5, z1, z2, z3, z4]
theorem wayI_of {r u : Int32} (h : wayI r u = true) : ∃ r' u' : Int, r = zI r' ∧ u = zI u' ∧ (-9 ≤ r' ∧ r' ≤ 9) ∧ (-9 ≤ u' ∧ u' ≤ 9) := by
  unfold wayI at h
  simp only [Bool.and_eq_true, decide_eq_true_eq] at h
  exact ⟨r.toInt, u.toInt, (zI_self r).symm, (zI_self u).symm, h.1, h.2.1⟩
def A_hits (nb w h : Nat) (X Y : Nat → Nat) (a r u o k : Int32) : Int32 := if isB nb a && (isB nb o && (wayI r u && (decide (0 ≤ k.toInt) && decide (k.toInt ≤ 2)))) then hV k (foldUp (hOut w h X Y a.toInt.toNat o.toInt.toNat r.toInt u.toInt) (-10) 21 none) else -100000000
theorem hInv0 : hInv none := fun a i j e => by cases e
theorem a_hits_c {G : rx_Gh} (ok : HOk nb w h g t X Y A) (H : HC nb w h g t X Y A hc) (a r u o k : Int32) {F : Int32 → rx_Hp → Prop} (K : ∀ hp, Fr [(44, 2), (44, 3)] [] hc hp → F (A_hits nb w h X Y a r u o k) hp) : Ev wC G 4 q_GR_hits [.ref 0, .int a, .int r, .int u, .int o, .int k] hc (rI F) := by
  have h6 := ok.1
  refine w_GR_hits a r u o k ?_
  rw [has_c h6 H.1.1, has_c h6 H.1.1, way_c]
  have ek1 := i_lt k 0 (by omega)
  have ek2 := i_le k 2 (by omega)
  unfold A_hits at K
  refine ⟨fun c => ?_, fun c1 => ⟨fun c => ?_, fun c2 => ⟨fun c => ?_, fun c3 => ⟨fun c => ?_, fun c4 => ⟨fun c5 => ?_, fun c => ?_⟩⟩⟩⟩⟩
  · have K := K hc Fr.rf
    rw [(b2_0 _).mp c] at K; exact K
  · have K := K hc Fr.rf
    rw [(b2_0 _).mp c, Bool.false_and, Bool.and_false] at K; exact K
  · have K := K hc Fr.rf
    rw [(b2_0 _).mp c, Bool.false_and, Bool.and_false, Bool.and_false] at K; exact K
  · have K := K hc Fr.rf
    have := ek1.mp c
    rw [if_neg (by simp; omega)] at K; exact K
  · have z1 := b2_t c1
    have z2 := b2_t c2
    have z3 := b2_t c3
    have z4 := mtn ek1 c4
    have z5 := ek2.mp c5
    rw [z1, z2, z3, Bool.true_and, Bool.true_and, Bool.true_and, if_pos (by simp; omega)] at K
    obtain ⟨b, k1, rfl⟩ := isB_of z1
    obtain ⟨o', k2, rfl⟩ := isB_of z2
    obtain ⟨r', u', rfl, rfl, k3, k4⟩ := wayI_of z3
    rw [zI_back (by omega), zI_back (by omega), zI_toInt (by omega) (by omega), zI_toInt (by omega) (by omega)] at K
    refine w_Ba_findFirst _ _ _ _ ?_
    refine hits_out_c ok H k1 k2 k3 k4 21 (-10) none hc (by omega) (by omega) hInv0 Fr.rf (fun a i j e => by cases e) (fun s' hp' e hs' hf hfi => ?_)
    have K := K hp' hf
    rw [← e] at K
    cases s' with
    | none => exact ⟨fun _ => K, fun z => absurd rfl z⟩
    | some v =>
      obtain ⟨a, i, j⟩ := v
      obtain ⟨v1, v2, v3, v4⟩ := hs' a i j rfl
      obtain ⟨f1, f2⟩ := hfi a i j rfl
      rw [f1, f2, gl_c v3 v4]
      refine ⟨fun z => absurd z (show ¬ (1 : Int32) = 0 by decide), fun _ => ⟨fun z => ?_, fun z => ?_⟩⟩
      · rw [hV, if_pos z] at K; exact K
      · rw [hV, if_neg z] at K; exact K
  · have K := K hc Fr.rf
    have := mtn ek2 c
    rw [if_neg (by simp; omega)] at K; exact K
theorem a_hits_m {G : rx_Gh} {hm : rx_Hp} (ok : HOk nb w h g t X Y A) (H : HM nb w h g t X Y A hm) (a r u o k : Int32) {F : Int32 → rx_Hp → Prop} (K : F (A_hits nb w h X Y a r u o k) hm) : Ev wM G 3 q_M_hits [.ref 0, .int a, .int r, .int u, .int o, .int k] hm (rI F) := by
  have h6 := ok.1
  refine w_M_hits a r u o k ?_
  have er : f_M_in r (-9) 9 = b2 (decide (-9 ≤ r.toInt) && decide (r.toInt ≤ 9)) := by rw [show (-9 : Int32) = zI (-9) from by decide, show (9 : Int32) = zI 9 from by decide]; exact in_m r (by omega) (by omega)
  have eu : f_M_in u (-9) 9 = b2 (decide (-9 ≤ u.toInt) && decide (u.toInt ≤ 9)) := by rw [show (-9 : Int32) = zI (-9) from by decide, show (9 : Int32) = zI 9 from by decide]; exact in_m u (by omega) (by omega)
  have ek : f_M_in k 0 2 = b2 (decide (0 ≤ k.toInt) && decide (k.toInt ≤ 2)) := in_m k (lo := 0) (hi := 2) (by omega) (by omega)
  rw [isB_m h6 H.1.1, isB_m h6 H.1.1, er, eu, ek]
  have fin : ∀ (z1 : isB nb a = true) (z2 : isB nb o = true) (z3 : wayI r u = true) (z4 : (decide (0 ≤ k.toInt) && decide (k.toInt ≤ 2)) = true), Rn wM G 3 q_M_hits 77 [some (.ref 0), some (.int a), some (.int r), some (.int u), some (.int o), some (.int k), some (.int 0), some (.int 0), some (.int 0), some (.int 0), some (.int (-10)), none, none, none, none, none] [] hm (rI F) := by
    intro z1 z2 z3 z4
    unfold A_hits at K
    rw [z1, z2, z3, z4, Bool.true_and, Bool.true_and, Bool.true_and, if_pos rfl] at K
    obtain ⟨b, k1, rfl⟩ := isB_of z1
    obtain ⟨o', k2, rfl⟩ := isB_of z2
    obtain ⟨r', u', rfl, rfl, k3, k4⟩ := wayI_of z3
    rw [zI_back (by omega), zI_back (by omega), zI_toInt (by omega) (by omega), zI_toInt (by omega) (by omega)] at K
    exact hits_out_m ok H k1 k2 k3 k4 k 21 (-10) none (by omega) (by omega) hInv0 K
  unfold A_hits at K
  refine ⟨fun c => ?_, fun c1 => ⟨fun c => ?_, fun c2 => ⟨fun c => ?_, fun c3 => ⟨fun c => ?_, fun c4 => ⟨fun c5 => ⟨fun c => ?_, fun c6 => ⟨fun c => ?_, fun c7 => ?_⟩⟩, fun c5 => ⟨fun c => ?_, fun c7 => ?_⟩⟩⟩⟩⟩⟩
  · rw [(b2_0 _).mp c] at K; exact K
  · rw [(b2_0 _).mp c, Bool.false_and, Bool.and_false] at K; exact K
  · unfold wayI at K
    rw [(b2_0 _).mp c, Bool.false_and, Bool.false_and, Bool.and_false, Bool.and_false] at K; exact K
  · unfold wayI at K
    rw [(b2_0 _).mp c, Bool.false_and, Bool.and_false, Bool.false_and, Bool.and_false, Bool.and_false] at K; exact K
  · unfold wayI at K
    rw [if_neg (by simp [c5, c])] at K; exact K
  · rw [(b2_0 _).mp c, Bool.and_false, Bool.and_false, Bool.and_false] at K; exact K
  · refine fin (b2_t c1) (b2_t c2) ?_ (b2_t c7)
    unfold wayI
    rw [b2_t c3, b2_t c4]
    simp [c6]
  · rw [(b2_0 _).mp c, Bool.and_false, Bool.and_false, Bool.and_false] at K; exact K
  · refine fin (b2_t c1) (b2_t c2) ?_ (b2_t c7)
    unfold wayI
    rw [b2_t c3, b2_t c4]
    simp [c5]
end HIC

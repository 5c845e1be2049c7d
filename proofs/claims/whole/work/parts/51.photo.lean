/-! photo (model); isOnPhoto (model) -/
section PHM
variable {nb w h g t np : Nat} {X Y A pe pf : Nat → Nat} {hm : rx_Hp}
theorem a_photo_m {G : rx_Gh} {F : Int32 → rx_Hp → Prop} (ok : HOk nb w h g t X Y A) (op : POk nb np pe pf) (H : HM nb w h g t X Y A hm) (P : PM np pe pf hm) (e f : Int32) (K0 : phoI nb np e f = false → F (-1) hm) (K1 : phoI nb np e f = true → ∀ hp, PM (np + 1) (setN pe np e.toInt.toNat) (setN pf np f.toInt.toNat) hp → Fr [(0, 42)] [21, 22] hm hp → F (zI ((np + 1 : Nat) : Int)) hp) : Ev wM G 3 q_M_photo [.ref 0, .int e, .int f] hm (rI F) := by
  have h6 := ok.1
  obtain ⟨o1, o2⟩ := op
  have e1 : f_M_in f 0 99999 = b2 (decide (0 ≤ f.toInt) && decide (f.toInt ≤ 99999)) := in_m f (lo := 0) (hi := 99999) (by omega) (by omega)
  have e3 : hm.1 0 42 = 12 ↔ np = 12 := by rw [P.1, show (12 : Int32) = zI 12 from by decide, zI_eq (by omega) (by omega)]; omega
  refine w_M_photo e f ?_
  rw [isB_m h6 H.1.1, e1]
  refine ⟨fun c => K0 (by unfold phoI; rw [(b2_0 _).mp c]; rfl), fun c1 => ⟨fun c => K0 (by unfold phoI; rw [(b2_0 _).mp c]; simp), fun c2 => ⟨fun c => K0 (by have := e3.mp c; unfold phoI; simp; omega), fun c3 => ?_⟩⟩⟩
  have z1 := b2_t c1
  have z2 := b2_t c2
  have z4 := mtn e3 c3
  have K1 := K1 (by unfold phoI; rw [z1, z2]; simp; omega)
  simp only [Bool.and_eq_true, decide_eq_true_eq] at z2
  obtain ⟨e', k1, rfl⟩ := isB_of z1
  have hz := zI_N (x := f) (by omega)
  rw [P.1, zI_cN (by omega), show (1 : Int32) = zI 1 from by decide, zI_add]
  rw [zI_back (by omega)] at K1
  refine ⟨vp_N (by omega) (by omega), ?_⟩
  refine K1 _ ⟨?_, fun k hk => ?_⟩ (((Fr.rf.pa (by decide)).pa (by decide)).pf (by decide))
  · rw [pf_same]; rfl
  · unfold setN
    rw [pf_a]
    by_cases q : k = np
    · subst q
      rw [if_pos rfl, if_pos rfl, pa_ne _ _ (by simp), pa_same, pa_same, ← hz]
      exact ⟨rfl, rfl⟩
    · rw [if_neg q, if_neg q, pa_ne _ _ (by simp), pa_ne _ _ (by simp [q]), pa_ne _ _ (by simp [q]), pa_ne _ _ (by simp)]
      exact P.2 k (by omega)
/-- an image of something at x, y, i and j thrown, is so far from e -/
def phC (w h g : Nat) (X Y : Nat → Nat) (e f x y : Nat) (i j : Int) : Bool := thI g i j && decide ((spI i w x - X e) * (spI i w x - X e) + (spI j h y - Y e) * (spI j h y - Y e) = f)
def phA (w h g : Nat) (X Y : Nat → Nat) (e f x y : Nat) : Bool := anyUp (fun i => anyUp (fun j => phC w h g X Y e f x y i j) (-2) 5) (-2) 5
theorem sq_bd {a : Int} (h : -240 ≤ a ∧ a ≤ 240) : 0 ≤ a * a ∧ a * a ≤ 57600 := by
  have := mulbd (A := 240) (B := 240) h h
  refine ⟨?_, by omega⟩
  rcases Int.le_total 0 a with q | q
  · exact Int.mul_nonneg q q
  · exact Int.mul_nonneg_of_nonpos_of_nonpos q q
theorem onP_in {G : rx_Gh} {F : Int32 → rx_Hp → Prop} (ok : HOk nb w h g t X Y A) (op : POk nb np pe pf) (H : HM nb w h g t X Y A hm) (P : PM np pe pf hm) {k x y : Nat} (hk : k < np) (hx : x ≤ w) (hy : y ≤ h) {i : Int} (hi : -2 ≤ i ∧ i ≤ 2) : ∀ (m : Nat) (j : Int), j + m = 3 → -2 ≤ j →
    (anyUp (fun j => phC w h g X Y (pe k) (pf k) x y i j) j m = true → F 1 hm) → (anyUp (fun j => phC w h g X Y (pe k) (pf k) x y i j) j m = false → Rn wM G 4 q_M_isOnPhoto 4 [some (.ref 0), some (.int (zI k)), some (.int (zI x)), some (.int (zI y)), some (.int (zI i + 1)), none, none, none] [] hm (rI F)) →
    Rn wM G 4 q_M_isOnPhoto 14 [some (.ref 0), some (.int (zI k)), some (.int (zI x)), some (.int (zI y)), some (.int (zI i)), some (.int (zI j)), none, none] [] hm (rI F) := by
  have h6 := ok.1
  have hpe := op.2 k hk
  have hnp := op.1
  have hw := ok.2.1
  have hh := ok.2.2.1
  have qe := ok.2.2.2.2.2.2 (pe k) hpe.1
  intro m
  induction m with
  | zero =>
    intro j hj _ _ K2
    have hc : 2 < zI j := by rw [show (2 : Int32) = zI 2 from by decide, zI_lt (by omega) (by omega)]; omega
    exact w_M_isOnPhoto_14 _ _ _ _ _ ⟨fun _ => K2 rfl, fun c => absurd hc c⟩
  | succ m ih =>
    intro j hj hj2 K1 K2
    have hc : ¬ 2 < zI j := by rw [show (2 : Int32) = zI 2 from by decide, zI_lt (by omega) (by omega)]; omega
    rw [anyUp] at K1 K2
    have s1 := spI_bd (i := i) (w := w) (x := x) (by omega) (by omega) (by omega)
    have s2 := spI_bd (i := j) (w := h) (x := y) (by omega) (by omega) (by omega)
    have q1 := sq_bd (a := spI i w x - X (pe k)) (by omega)
    have q2 := sq_bd (a := spI j h y - Y (pe k)) (by omega)
    refine w_M_isOnPhoto_14 _ _ _ _ _ ⟨fun c => absurd c hc, fun _ => ?_⟩
    rw [zI_cN (n := k) (by omega), (P.2 k hk).1, (P.2 k hk).2, zI_cN (by omega), (H.2 _ hpe.1).1, (H.2 _ hpe.1).2.1, H.1.2.1, H.1.2.2.1, spot_m (by omega) (by omega), spot_m (by omega) (by omega), there_m ok.2.2.2.1 (by omega) (by omega) (by omega) (by omega) H.1.2.2.2.1]
    simp only [zI_sub, zI_mul, zI_add]
    rw [show zI j + 1 = zI (j + 1) from zI_add j 1]
    have cE : (zI ((spI i w x - X (pe k)) * (spI i w x - X (pe k)) + (spI j h y - Y (pe k)) * (spI j h y - Y (pe k))) = zI (pf k)) ↔ (spI i w x - X (pe k)) * (spI i w x - X (pe k)) + (spI j h y - Y (pe k)) * (spI j h y - Y (pe k)) = pf k := zI_eq (by omega) (by omega)
    have go : phC w h g X Y (pe k) (pf k) x y i j = false → Rn wM G 4 q_M_isOnPhoto 14 [some (.ref 0), some (.int (zI k)), some (.int (zI x)), some (.int (zI y)), some (.int (zI i)), some (.int (zI (j + 1))), none, none] [] hm (rI F) := by
      intro z
      rw [z, Bool.false_or] at K1 K2
      exact ih (j + 1) (by omega) (by omega) K1 K2
    refine ⟨vp_N (by omega) (by omega), vp_N (by omega) (by omega), fun c => go ?_, fun c => ⟨fun c2 => ?_, fun c2 => go ?_⟩⟩
    · unfold phC; rw [(b2_0 _).mp c]; rfl
    · refine K1 ?_
      unfold phC
      rw [b2_t c]
      simp [cE.mp c2]
    · unfold phC
      have := mtn cE c2
      simp [this]
theorem onP_out {G : rx_Gh} {F : Int32 → rx_Hp → Prop} (ok : HOk nb w h g t X Y A) (op : POk nb np pe pf) (H : HM nb w h g t X Y A hm) (P : PM np pe pf hm) {k x y : Nat} (hk : k < np) (hx : x ≤ w) (hy : y ≤ h) : ∀ (m : Nat) (i : Int), i + m = 3 → -2 ≤ i → F (b2 (anyUp (fun i => anyUp (fun j => phC w h g X Y (pe k) (pf k) x y i j) (-2) 5) i m)) hm →
    Rn wM G 4 q_M_isOnPhoto 4 [some (.ref 0), some (.int (zI k)), some (.int (zI x)), some (.int (zI y)), some (.int (zI i)), none, none, none] [] hm (rI F) := by
  intro m
  induction m with
  | zero =>
    intro i hi _ K
    have hc : 2 < zI i := by rw [show (2 : Int32) = zI 2 from by decide, zI_lt (by omega) (by omega)]; omega
    exact w_M_isOnPhoto_4 _ _ _ _ ⟨fun _ => K, fun c => absurd hc c⟩
  | succ m ih =>
    intro i hi hi2 K
    have hc : ¬ 2 < zI i := by rw [show (2 : Int32) = zI 2 from by decide, zI_lt (by omega) (by omega)]; omega
    rw [anyUp] at K
    refine w_M_isOnPhoto_4 _ _ _ _ ⟨fun c => absurd c hc, fun _ => ?_⟩
    refine onP_in (i := i) ok op H P hk hx hy (by omega) 5 (-2) (by omega) (by omega) (fun z => ?_) (fun z => ?_)
    · rw [z, Bool.true_or] at K; exact K
    · rw [z, Bool.false_or] at K
      rw [show zI i + 1 = zI (i + 1) from zI_add i 1]
      exact ih (i + 1) (by omega) (by omega) K
theorem onP_m {G : rx_Gh} {F : Int32 → rx_Hp → Prop} (ok : HOk nb w h g t X Y A) (op : POk nb np pe pf) (H : HM nb w h g t X Y A hm) (P : PM np pe pf hm) {k x y : Nat} (hk : k < np) (hx : x ≤ w) (hy : y ≤ h) (K : F (b2 (phA w h g X Y (pe k) (pf k) x y)) hm) : Ev wM G 4 q_M_isOnPhoto [.ref 0, .int (zI k), .int (zI x), .int (zI y)] hm (rI F) :=
  w_M_isOnPhoto _ _ _ (onP_out ok op H P hk hx hy 5 (-2) (by omega) (by omega) K)
end PHM

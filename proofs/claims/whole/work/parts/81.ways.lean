/-! ways: the model -/
section WYM
variable {nb w h g t : Nat} {X Y A : Nat → Nat}
theorem wyP_inj (ok : HOk nb w h g t X Y A) {o : Nat} (ho : o < nb) {u v i j : Int} (hu : -10 ≤ u ∧ u ≤ 10) (hv : -10 ≤ v ∧ v ≤ 10) (hi : -10 ≤ i ∧ i ≤ 10) (hj : -10 ≤ j ∧ j ≤ 10) : wyP w h X Y o u v = wyP w h X Y o i j ↔ (spI u w (X o) = spI i w (X o) ∧ spI v h (Y o) = spI j h (Y o)) := by
  have o7 := ok.2.2.2.2.2.2 o ho
  have hw := ok.2.1
  have hh := ok.2.2.1
  have b2 := spI_bd (i := v) (w := h) (x := Y o) hv (by omega) (by omega)
  have b4 := spI_bd (i := j) (w := h) (x := Y o) hj (by omega) (by omega)
  unfold wyP; omega
theorem wyS_inj (ok : HOk nb w h g t X Y A) {o b : Nat} (ho : o < nb) (hb : b < nb) {i j : Int} (hi : -10 ≤ i ∧ i ≤ 10) (hj : -10 ≤ j ∧ j ≤ 10) : wyP w h X Y o i j = wyS X Y b ↔ (spI i w (X o) = X b ∧ spI j h (Y o) = Y b) := by
  have o7 := ok.2.2.2.2.2.2 o ho
  have o8 := ok.2.2.2.2.2.2 b hb
  have hw := ok.2.1
  have hh := ok.2.2.1
  have b4 := spI_bd (i := j) (w := h) (x := Y o) hj (by omega) (by omega)
  unfold wyP wyS; omega
theorem imX_m (ok : HOk nb w h g t X Y A) {hm : rx_Hp} (H : HM nb w h g t X Y A hm) {o : Nat} (ho : o < nb) {i : Int} (hi : -10 ≤ i ∧ i ≤ 10) : p_M_imageX (zI o) (zI i) ∧ f_M_imageX (zI o) (zI i) hm = zI (spI i w (X o)) := by
  have h6 := ok.1
  refine ⟨vp_N (by omega) (by omega), ?_⟩
  unfold f_M_imageX
  rw [zI_cN (by omega), (H.2 o ho).1, H.1.2.1, spot_m hi.1 hi.2]
theorem imY_m (ok : HOk nb w h g t X Y A) {hm : rx_Hp} (H : HM nb w h g t X Y A hm) {o : Nat} (ho : o < nb) {i : Int} (hi : -10 ≤ i ∧ i ≤ 10) : p_M_imageY (zI o) (zI i) ∧ f_M_imageY (zI o) (zI i) hm = zI (spI i h (Y o)) := by
  have h6 := ok.1
  refine ⟨vp_N (by omega) (by omega), ?_⟩
  unfold f_M_imageY
  rw [zI_cN (by omega), (H.2 o ho).2.1, H.1.2.2.1, spot_m hi.1 hi.2]
def wyQ (P : Int → Int → Int) (n : Nat) (i j u v : Int) : Bool := (decide (u.natAbs + v.natAbs = n) && (decide (u < i) || (decide (u = i) && decide (v < j)))) && decide (P u v = P i j)
theorem nw_v {G : rx_Gh} {F : Int32 → rx_Hp → Prop} (ok : HOk nb w h g t X Y A) {hm : rx_Hp} (H : HM nb w h g t X Y A hm) {o n : Nat} (ho : o < nb) (hn : n ≤ 10) {i j : Int} (hi : -(n : Int) ≤ i ∧ i ≤ n) (hj : -(n : Int) ≤ j ∧ j ≤ n) {u : Int} (hu : -(n : Int) ≤ u ∧ u ≤ i) : ∀ (m : Nat) (v : Int), v + m = n + 1 → -(n : Int) ≤ v → (anyUp (wyQ (wyP w h X Y o) n i j u) v m = true → F 0 hm) → (anyUp (wyQ (wyP w h X Y o) n i j u) v m = false → Rn wM G 3 q_M_isNew 46 [some (.ref 0), none, some (.int (zI o)), some (.int (zI n)), some (.int (zI i)), some (.int (zI j)), some (.int (zI (spI i w (X o)))), some (.int (zI (spI j h (Y o)))), some (.int (zI (u + 1))), none, none] [] hm (rI F)) → Rn wM G 3 q_M_isNew 57 [some (.ref 0), none, some (.int (zI o)), some (.int (zI n)), some (.int (zI i)), some (.int (zI j)), some (.int (zI (spI i w (X o)))), some (.int (zI (spI j h (Y o)))), some (.int (zI u)), some (.int (zI v)), none] [] hm (rI F) := by
  have o7 := ok.2.2.2.2.2.2 o ho
  have hw := ok.2.1
  have hh := ok.2.2.1
  intro m
  induction m with
  | zero =>
    intro v hv hl _ Kf
    have hcn : zI (n : Int) < zI v := by rw [zI_lt (by omega) (by omega)]; omega
    refine w_M_isNew_57 _ _ _ _ _ _ _ _ ⟨fun _ => ?_, fun c => absurd hcn c⟩
    rw [show zI u + 1 = zI (u + 1) from zI_add u 1]
    exact Kf rfl
  | succ m ih =>
    intro v hv hl Kt Kf
    have hcn : ¬ zI (n : Int) < zI v := by rw [zI_lt (by omega) (by omega)]; omega
    have b1 := spI_bd (i := u) (w := w) (x := X o) (by omega) (by omega) (by omega)
    have b2y := spI_bd (i := v) (w := h) (x := Y o) (by omega) (by omega) (by omega)
    have b3 := spI_bd (i := i) (w := w) (x := X o) (by omega) (by omega) (by omega)
    have b4 := spI_bd (i := j) (w := h) (x := Y o) (by omega) (by omega) (by omega)
    obtain ⟨x1, x2⟩ := imX_m ok H ho (i := u) (by omega)
    obtain ⟨y1, y2⟩ := imY_m ok H ho (i := v) (by omega)
    have go : wyQ (wyP w h X Y o) n i j u v = false → Rn wM G 3 q_M_isNew 57 [some (.ref 0), none, some (.int (zI o)), some (.int (zI n)), some (.int (zI i)), some (.int (zI j)), some (.int (zI (spI i w (X o)))), some (.int (zI (spI j h (Y o)))), some (.int (zI u)), some (.int (zI (v + 1))), none] [] hm (rI F) := by
      intro hq
      refine ih (v + 1) (by omega) (by omega) (fun z => Kt ?_) (fun z => Kf ?_)
      · rw [anyUp, hq, Bool.false_or]; exact z
      · rw [anyUp, hq, Bool.false_or]; exact z
    have ea : ((if zI u < zI i then 1 else ((if zI j ≤ zI v then 0 else 1) : Int32)) : Int32) = b2 (decide (u < i) || decide (v < j)) := by
      have r1 := zI_lt (a := u) (b := i) (by omega) (by omega)
      have r2 := zI_le (a := j) (b := v) (by omega) (by omega)
      by_cases q1 : u < i
      · rw [if_pos (r1.mpr q1), decide_eq_true q1, Bool.true_or]; rfl
      · rw [if_neg (mt r1.mp q1), decide_eq_false q1, Bool.false_or]
        by_cases q2 : j ≤ v
        · rw [if_pos (r2.mpr q2), decide_eq_false (by omega)]; rfl
        · rw [if_neg (mt r2.mp q2), decide_eq_true (by omega)]; rfl
    refine w_M_isNew_57 _ _ _ _ _ _ _ _ ⟨fun c => absurd c hcn, fun _ => ?_⟩
    rw [ea, gl_m (by omega) (by omega), x2, y2, show zI v + 1 = zI (v + 1) from zI_add v 1, zI_eq (a := spI u w (X o)) (by omega) (by omega), zI_eq (a := spI v h (Y o)) (by omega) (by omega), zI_eq (a := (glI u v : Nat)) (by unfold glI; omega) (by omega)]
    have eqv : (decide (u < i) || (decide (u = i) && decide (v < j))) = (decide (u < i) || decide (v < j)) := by
      by_cases q1 : u < i
      · rw [decide_eq_true q1]; rfl
      · rw [decide_eq_true (show u = i by omega), Bool.true_and]
    have inj := wyP_inj ok ho (u := u) (v := v) (i := i) (j := j) (by omega) (by omega) (by omega) (by omega)
    refine ⟨fun c => go ?_, fun c => ⟨fun d => ⟨x1, fun e1 => ⟨y1, fun e2 => ?_, fun e2 => go ?_⟩, fun e1 => go ?_⟩, fun d => go ?_⟩⟩
    · have c := (b2_0 _).mp c
      unfold wyQ; rw [eqv, c, Bool.and_false, Bool.false_and]
    · have c := b2_t c
      refine Kt ?_
      have : wyQ (wyP w h X Y o) n i j u v = true := by
        unfold wyQ
        rw [eqv, c, decide_eq_true (inj.mpr ⟨e1, e2⟩), decide_eq_true (show u.natAbs + v.natAbs = n by unfold glI at d; omega)]; rfl
      rw [anyUp, this, Bool.true_or]
    · unfold wyQ; rw [decide_eq_false (show ¬ wyP w h X Y o u v = wyP w h X Y o i j from fun z => e2 (inj.mp z).2), Bool.and_false]
    · unfold wyQ; rw [decide_eq_false (show ¬ wyP w h X Y o u v = wyP w h X Y o i j from fun z => e1 (inj.mp z).1), Bool.and_false]
    · unfold wyQ; rw [decide_eq_false (show ¬ u.natAbs + v.natAbs = n by unfold glI at d; omega)]; rfl
theorem nw_u {G : rx_Gh} {F : Int32 → rx_Hp → Prop} (ok : HOk nb w h g t X Y A) {hm : rx_Hp} (H : HM nb w h g t X Y A hm) {o n : Nat} (ho : o < nb) (hn : n ≤ 10) {i j : Int} (hi : -(n : Int) ≤ i ∧ i ≤ n) (hj : -(n : Int) ≤ j ∧ j ≤ n) : ∀ (m : Nat) (u : Int), u + m = i + 1 → -(n : Int) ≤ u → (anyUp (fun u => anyUp (wyQ (wyP w h X Y o) n i j u) (-(n : Int)) (2 * n + 1)) u m = true → F 0 hm) → (anyUp (fun u => anyUp (wyQ (wyP w h X Y o) n i j u) (-(n : Int)) (2 * n + 1)) u m = false → F 1 hm) → Rn wM G 3 q_M_isNew 46 [some (.ref 0), none, some (.int (zI o)), some (.int (zI n)), some (.int (zI i)), some (.int (zI j)), some (.int (zI (spI i w (X o)))), some (.int (zI (spI j h (Y o)))), some (.int (zI u)), none, none] [] hm (rI F) := by
  intro m
  induction m with
  | zero =>
    intro u hu hl _ Kf
    have hcn : zI i < zI u := by rw [zI_lt (by omega) (by omega)]; omega
    exact w_M_isNew_46 _ _ _ _ _ _ _ ⟨fun _ => Kf rfl, fun c => absurd hcn c⟩
  | succ m ih =>
    intro u hu hl Kt Kf
    have hcn : ¬ zI i < zI u := by rw [zI_lt (by omega) (by omega)]; omega
    refine w_M_isNew_46 _ _ _ _ _ _ _ ⟨fun c => absurd c hcn, fun _ => ?_⟩
    rw [zI_neg]
    refine nw_v ok H ho hn hi hj (by omega) (2 * n + 1) (-(n : Int)) (by omega) (by omega) (fun q => Kt ?_) (fun q => ih (u + 1) (by omega) (by omega) (fun z => Kt ?_) (fun z => Kf ?_))
    · rw [anyUp, q, Bool.true_or]
    · rw [anyUp, q, Bool.false_or]; exact z
    · rw [anyUp, q, Bool.false_or]; exact z
theorem wyB_up {P : Int → Int → Int} {n : Nat} {i j : Int} (hi : -(n : Int) ≤ i ∧ i ≤ n) : anyUp (fun u => anyUp (wyQ P n i j u) (-(n : Int)) (2 * n + 1)) (-(n : Int)) (i + n + 1).toNat = wyB P n i j (P i j) := by
  have key : ∀ a b : Bool, (a = true ↔ b = true) → a = b := by intro a b h; cases a <;> cases b <;> simp_all
  apply key
  rw [wyB_iff, anyUp_iff]
  constructor
  · rintro ⟨u, h1, h2, h3⟩
    obtain ⟨v, h4, h5, h6⟩ := (anyUp_iff _ _ _).mp h3
    unfold wyQ at h6
    simp only [Bool.and_eq_true, Bool.or_eq_true, decide_eq_true_eq] at h6
    exact ⟨u, v, h6.1.1, h6.1.2, h6.2⟩
  · rintro ⟨u, v, h1, h2, h3⟩
    refine ⟨u, by omega, by omega, (anyUp_iff _ _ _).mpr ⟨v, by omega, by omega, ?_⟩⟩
    unfold wyQ
    simp only [Bool.and_eq_true, Bool.or_eq_true, decide_eq_true_eq]
    exact ⟨⟨h1, h2⟩, h3⟩
theorem nw_m {G : rx_Gh} {F : Int32 → rx_Hp → Prop} (ok : HOk nb w h g t X Y A) {hm : rx_Hp} (H : HM nb w h g t X Y A hm) {b o n : Nat} (hb : b < nb) (ho : o < nb) (hn : n ≤ 10) {i j : Int} (hi : -(n : Int) ≤ i ∧ i ≤ n) (hj : -(n : Int) ≤ j ∧ j ≤ n) (K : F (b2 (wyN (wyP w h X Y o) (wyS X Y b) n i j)) hm) : Ev wM G 3 q_M_isNew [.ref 0, .int (zI b), .int (zI o), .int (zI n), .int (zI i), .int (zI j)] hm (rI F) := by
  have h6 := ok.1
  have o7 := ok.2.2.2.2.2.2 o ho
  have o8 := ok.2.2.2.2.2.2 b hb
  have hw := ok.2.1
  have hh := ok.2.2.1
  have b3 := spI_bd (i := i) (w := w) (x := X o) (by omega) (by omega) (by omega)
  have b4 := spI_bd (i := j) (w := h) (x := Y o) (by omega) (by omega) (by omega)
  obtain ⟨x1, x2⟩ := imX_m ok H ho (i := i) (by omega)
  obtain ⟨y1, y2⟩ := imY_m ok H ho (i := j) (by omega)
  have inj := wyS_inj ok ho hb (i := i) (j := j) (by omega) (by omega)
  refine w_M_isNew _ _ _ _ _ ⟨x1, y1, vp_N (by omega) (by omega), ?_⟩
  rw [x2, y2, zI_cN (by omega), (H.2 b hb).1, (H.2 b hb).2.1, zI_neg, zI_eq (by omega) (by omega), zI_eq (by omega) (by omega)]
  have go : ¬ wyP w h X Y o i j = wyS X Y b → Rn wM G 3 q_M_isNew 46 [some (.ref 0), none, some (.int (zI o)), some (.int (zI n)), some (.int (zI i)), some (.int (zI j)), some (.int (zI (spI i w (X o)))), some (.int (zI (spI j h (Y o)))), some (.int (zI (-(n : Int)))), none, none] [] hm (rI F) := by
    intro hz
    unfold wyN at K
    rw [decide_eq_false hz, ← wyB_up hi] at K
    refine nw_u ok H ho hn hi hj (i + n + 1).toNat (-(n : Int)) (by omega) (by omega) (fun q => ?_) (fun q => ?_)
    · rw [q] at K; exact K
    · rw [q] at K; exact K
  refine ⟨fun c => ⟨fun d => ?_, fun d => go (fun z => d (inj.mp z).2)⟩, fun c => go (fun z => c (inj.mp z).1)⟩
  unfold wyN at K
  rw [decide_eq_true (inj.mpr ⟨c, d⟩)] at K
  exact K
theorem wm_i {G : rx_Gh} {F : Int32 → rx_Hp → Prop} (ok : HOk nb w h g t X Y A) {hm : rx_Hp} (H : HM nb w h g t X Y A hm) {b o n : Nat} (hb : b < nb) (ho : o < nb) (hn : n ≤ 10) : ∀ (m : Nat) (i : Int) (s : Nat), i + m = n + 1 → -(n : Int) ≤ i → F (zI (s + sumUp (wyR (wyP w h X Y o) (wyS X Y b) n) i m : Nat)) hm → Rn wM G 4 q_M_ways 35 [some (.ref 0), some (.int (zI b)), some (.int (zI o)), some (.int (zI n)), some (.int (zI s)), some (.int (zI i)), none, none] [] hm (rI F) := by
  intro m
  induction m with
  | zero =>
    intro i s hi hl K
    have hcn : zI (n : Int) < zI i := by rw [zI_lt (by omega) (by omega)]; omega
    exact w_M_ways_35 _ _ _ _ _ ⟨fun _ => K, fun c => absurd hcn c⟩
  | succ m ih =>
    intro i s hi hl K
    have hcn : ¬ zI (n : Int) < zI i := by rw [zI_lt (by omega) (by omega)]; omega
    refine w_M_ways_35 _ _ _ _ _ ⟨fun c => absurd c hcn, fun _ => ?_⟩
    obtain ⟨r, hr⟩ : ∃ r : Nat, n - i.natAbs = r := ⟨_, rfl⟩
    have hr2 : i.natAbs + r = n := by omega
    have eR : wyR (wyP w h X Y o) (wyS X Y b) n i = (if wyN (wyP w h X Y o) (wyS X Y b) n i (-(r : Int)) = true then 1 else 0) + (if r = 0 then 0 else if wyN (wyP w h X Y o) (wyS X Y b) n i (r : Int) = true then 1 else 0) := by
      unfold wyR
      rw [hr]
      by_cases q : r = 0
      · rw [if_pos q, if_pos (show i.natAbs = n by omega)]
      · rw [if_neg q, if_neg (show ¬ i.natAbs = n by omega)]
    have eS : sumUp (wyR (wyP w h X Y o) (wyS X Y b) n) i (m + 1) = wyR (wyP w h X Y o) (wyS X Y b) n i + sumUp (wyR (wyP w h X Y o) (wyS X Y b) n) (i + 1) m := rfl
    rw [eS, eR, ← Nat.add_assoc] at K
    have ea := abs_z (i := i) (by omega) (by omega)
    have e1 : zI (i : Int) + 1 = zI (i + 1) := zI_add i 1
    have eb : ∀ (z : Bool) (c : Nat), zI (c : Int) + ((if b2 z = 0 then 0 else 1) : Int32) = zI ((c + (if z = true then 1 else 0) : Nat) : Int) := by
      intro z c
      cases z with
      | true => exact zI_add c 1
      | false => exact zI_add c 0
    have q0 := zI_eq (a := (i.natAbs : Int)) (b := (n : Int)) (by omega) (by omega)
    have ec : ∀ z : Int, -10 ≤ z ∧ z ≤ 10 → zI z * 1 = zI z := fun z _ => by rw [show (1 : Int32) = zI 1 from by decide, zI_mul, Int.mul_one]
    -- first
    refine w_M_ways_44 _ _ _ _ _ _ ?_
    rw [ea, e1, zI_sub, show (n : Int) - (i.natAbs : Int) = (r : Int) by omega]
    by_cases z : i.natAbs = n
    · have r0 : r = 0 := by omega
      subst r0
      rw [if_pos (q0.mpr (by omega))]
      refine ⟨fun c => absurd c (by decide), fun _ => ?_⟩
      rw [if_pos rfl, show zI ((0 : Nat) : Int) * 1 = zI (0 : Int) from by decide]
      refine nw_m ok H hb ho hn (by omega) (by omega) ?_
      rw [eb]
      refine w_M_ways_44 _ _ _ _ _ _ ?_
      rw [ea, e1, if_pos (q0.mpr (by omega))]
      refine ⟨fun _ => ih (i + 1) _ (by omega) (by omega) ?_, fun c => absurd (by decide) c⟩
      rw [if_pos rfl, Nat.add_zero] at K
      exact K
    · rw [if_neg (fun y => z (by have := q0.mp y; omega))]
      refine ⟨fun c => absurd c (by decide), fun _ => ?_⟩
      rw [if_pos rfl, ec _ (by omega)]
      refine nw_m ok H hb ho hn (by omega) (by omega) ?_
      rw [eb]
      refine w_M_ways_44 _ _ _ _ _ _ ?_
      rw [ea, e1, if_neg (fun y => z (by have := q0.mp y; omega)), zI_sub, show (n : Int) - (i.natAbs : Int) = (r : Int) by omega]
      refine ⟨fun c => absurd c (by decide), fun _ => ?_⟩
      rw [if_neg (by decide), show zI (r : Int) * (-1) = zI (-(r : Int)) from by rw [show (-1 : Int32) = zI (-1) from by decide, zI_mul]; congr 1; omega]
      refine nw_m ok H hb ho hn (by omega) (by omega) ?_
      rw [eb]
      refine w_M_ways_44 _ _ _ _ _ _ ?_
      rw [ea, e1, if_neg (fun y => z (by have := q0.mp y; omega))]
      refine ⟨fun _ => ih (i + 1) _ (by omega) (by omega) ?_, fun c => absurd (by decide) c⟩
      rw [if_neg (show ¬ r = 0 by omega)] at K
      rw [show s + (if wyN (wyP w h X Y o) (wyS X Y b) n i (r : Int) = true then 1 else 0) + (if wyN (wyP w h X Y o) (wyS X Y b) n i (-(r : Int)) = true then 1 else 0) = s + ((if wyN (wyP w h X Y o) (wyS X Y b) n i (-(r : Int)) = true then 1 else 0) + (if wyN (wyP w h X Y o) (wyS X Y b) n i (r : Int) = true then 1 else 0)) by omega]
      exact K
theorem a_ways_m {G : rx_Gh} {hm : rx_Hp} (ok : HOk nb w h g t X Y A) (H : HM nb w h g t X Y A hm) (b o n : Int32) {F : Int32 → rx_Hp → Prop} (K : F (A_ways nb w h X Y b o n) hm) : Ev wM G 4 q_M_ways [.ref 0, .int b, .int o, .int n] hm (rI F) := by
  have h6 := ok.1
  have e3 : f_M_in n 0 10 = b2 (decide (0 ≤ n.toInt) && decide (n.toInt ≤ 10)) := in_m n (lo := 0) (hi := 10) (by omega) (by omega)
  have no : wyI nb b o n = false → F (-1) hm := fun h => by
    unfold A_ways at K; rw [if_neg (by rw [h]; simp)] at K; exact K
  refine w_M_ways b o n ?_
  rw [isB_m h6 H.1.1, isB_m h6 H.1.1, e3]
  refine ⟨fun c => no (by unfold wyI; rw [(b2_0 _).mp c]; rfl), fun c1 => ⟨fun c => no (by unfold wyI; rw [(b2_0 _).mp c]; simp), fun c2 => ⟨fun c => no (by unfold wyI; rw [(b2_0 _).mp c]; simp), fun c4 => ?_⟩⟩⟩
  have q1 := b2_t c1
  have q2 := b2_t c2
  have q4 := b2_t c4
  have hI : wyI nb b o n = true := by unfold wyI; rw [q1, q2, q4]; rfl
  simp only [Bool.and_eq_true, decide_eq_true_eq] at q4
  unfold A_ways at K
  rw [if_pos hI] at K
  obtain ⟨b', k1, rfl⟩ := isB_of q1
  obtain ⟨o', k2, rfl⟩ := isB_of q2
  have hn := zI_N (x := n) (by omega)
  obtain ⟨k, hk⟩ : ∃ k : Nat, n.toInt.toNat = k := ⟨_, rfl⟩
  rw [hk] at hn K
  rw [zI_back (by omega), zI_back (by omega)] at K
  rw [hn, zI_neg]
  refine wm_i ok H k1 k2 (by omega) (2 * k + 1) (-(k : Int)) 0 (by omega) (by omega) ?_
  rw [Nat.zero_add]; exact K
end WYM

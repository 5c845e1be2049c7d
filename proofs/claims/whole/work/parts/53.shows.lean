/-! shows, allShow (class) -/
def lo2 (p : Nat) : Int := if p = 3 then -2 else if p = 1 then -1 else 0
def hi2 (p : Nat) : Int := if p = 3 then 2 else if p = 2 then 1 else 0
theorem lo2I : ∀ g : Fin 16, f_Mt_max (-2) (f_Ha_lowI (zI (g : Nat))) = zI (lo2 ((g : Nat) % 4)) := by decide +kernel
theorem hi2I : ∀ g : Fin 16, f_Mt_min 2 (f_Ha_highI (zI (g : Nat))) = zI (hi2 ((g : Nat) % 4)) := by decide +kernel
theorem lo2J : ∀ g : Fin 16, f_Mt_max (-2) (f_Ha_lowJ (zI (g : Nat))) = zI (lo2 ((g : Nat) / 4)) := by decide +kernel
theorem hi2J : ∀ g : Fin 16, f_Mt_min 2 (f_Ha_highJ (zI (g : Nat))) = zI (hi2 ((g : Nat) / 4)) := by decide +kernel
theorem lo2_bd (p : Nat) : -2 ≤ lo2 p ∧ lo2 p ≤ 0 := by unfold lo2; split <;> (try split) <;> omega
theorem hi2_bd (p : Nat) : 0 ≤ hi2 p ∧ hi2 p ≤ 2 := by unfold hi2; split <;> (try split) <;> omega
theorem th2 (p : Nat) {i : Int} (hi : -2 ≤ i ∧ i ≤ 2) : (loC p ≤ i ∧ i ≤ hiC p) ↔ (lo2 p ≤ i ∧ i ≤ hi2 p) := by
  unfold loC hiC lo2 hi2
  by_cases q3 : p = 3
  · simp [q3]; omega
  · by_cases q1 : p = 1
    · simp [q1]
    · by_cases q2 : p = 2
      · simp [q2]
      · simp [q3, q1, q2]
section SHW
variable {nb w h g t np : Nat} {X Y A pe pf : Nat → Nat} {hc : rx_Hp}
def suC (h : Nat) (Y : Nat → Nat) (e y : Nat) (r : Int) (j : Int) : Bool := decide ((spI j h y - Y e) * (spI j h y - Y e) = r)
theorem up_loop {G : rx_Gh} {F : Int32 → rx_Hp → Prop} (ok : HOk nb w h g t X Y A) (H : HC nb w h g t X Y A hc) {e y : Nat} (he : e < nb) (hy : y ≤ h) {r hi : Int} (hr : 0 ≤ r ∧ r ≤ 99999) (hh : -2 ≤ hi ∧ hi ≤ 2) : ∀ (m : Nat) (j : Int), j + m = hi + 1 → -2 ≤ j → F (b2 (anyUp (suC h Y e y r) j m)) hc →
    Rn wC G 3 q_Ph_showsUp 33 [some (.ref 47), some (.int (zI e)), some (.int (zI r)), some (.int (zI y)), some (.int (zI hi)), some (.int (zI j)), none] [] hc (rI F) := by
  have h6 := ok.1
  have hH := ok.2.2.1
  have qe := ok.2.2.2.2.2.2 e he
  intro m
  induction m with
  | zero =>
    intro j hj _ K
    have hcn : zI hi < zI j := (zI_lt (by omega) (by omega)).mpr (by omega)
    exact w_Ph_showsUp_33 _ _ _ _ _ ⟨fun _ => K, fun c => absurd hcn c⟩
  | succ m ih =>
    intro j hj hj2 K
    have hcn : ¬ zI hi < zI j := fun q => by have := (zI_lt (by omega) (by omega)).mp q; omega
    rw [anyUp] at K
    have s2 := spI_bd (i := j) (w := h) (x := y) (by omega) (by omega) (by omega)
    have q2 := sq_bd (a := spI j h y - Y e) (by omega)
    refine w_Ph_showsUp_33 _ _ _ _ _ ⟨fun c => absurd c hcn, fun _ => ⟨vp_N (by omega) (by omega), ?_⟩⟩
    rw [zI_cN (by omega), (H.2.1 e he).2.1, H.1.2.2.1, spot_c (by omega) (by omega), zI_sub, zI_mul, show zI j + 1 = zI (j + 1) from zI_add j 1]
    have cE : (zI ((spI j h y - Y e) * (spI j h y - Y e)) = zI r) ↔ (spI j h y - Y e) * (spI j h y - Y e) = r := zI_eq (by omega) (by omega)
    refine ⟨fun c => ?_, fun c => ?_⟩
    · rw [show suC h Y e y r j = true by unfold suC; simp [cE.mp c], Bool.true_or] at K; exact K
    · rw [show suC h Y e y r j = false by unfold suC; have := mtn cE c; simp [this], Bool.false_or] at K
      exact ih (j + 1) (by omega) (by omega) K
def suA (h g : Nat) (Y : Nat → Nat) (e y : Nat) (r : Int) : Bool := anyUp (suC h Y e y r) (lo2 (g / 4)) (hi2 (g / 4) - lo2 (g / 4) + 1).toNat
theorem up_c {G : rx_Gh} {F : Int32 → rx_Hp → Prop} (ok : HOk nb w h g t X Y A) (H : HC nb w h g t X Y A hc) {e y : Nat} (he : e < nb) (hy : y ≤ h) {r : Int} (hr : 0 ≤ r ∧ r ≤ 99999) (K : F (b2 (suA h g Y e y r)) hc) : Ev wC G 3 q_Ph_showsUp [.ref 47, .int (zI e), .int (zI r), .int (zI y)] hc (rI F) := by
  refine w_Ph_showsUp _ _ _ ?_
  have e1 := lo2J ⟨g, ok.2.2.2.1⟩
  have e2 := hi2J ⟨g, ok.2.2.2.1⟩
  simp only at e1 e2
  have b1 := lo2_bd (g / 4)
  have b2' := hi2_bd (g / 4)
  rw [H.1.2.2.2.1, e1, e2]
  exact up_loop ok H he hy hr (by omega) _ _ (by omega) (by omega) K
def shC (w h g : Nat) (X Y : Nat → Nat) (e f x y : Nat) (i : Int) : Bool := decide ((spI i w x - X e) * (spI i w x - X e) ≤ f) && suA h g Y e y (f - (spI i w x - X e) * (spI i w x - X e))
theorem sh_loop {G : rx_Gh} {F : Int32 → rx_Hp → Prop} (ok : HOk nb w h g t X Y A) (H : HC nb w h g t X Y A hc) {e f x y : Nat} (he : e < nb) (hf : f ≤ 99999) (hx : x ≤ w) (hy : y ≤ h) {hi : Int} (hh : -2 ≤ hi ∧ hi ≤ 2) : ∀ (m : Nat) (i : Int), i + m = hi + 1 → -2 ≤ i → F (b2 (anyUp (shC w h g X Y e f x y) i m)) hc →
    Rn wC G 4 q_Ph_shows 46 [some (.ref 47), some (.int (zI e)), some (.int (zI f)), some (.int (zI x)), some (.int (zI y)), some (.int (zI hi)), some (.int (zI i)), none] [] hc (rI F) := by
  have h6 := ok.1
  have hW := ok.2.1
  have qe := ok.2.2.2.2.2.2 e he
  intro m
  induction m with
  | zero =>
    intro i hi' _ K
    have hcn : zI hi < zI i := (zI_lt (by omega) (by omega)).mpr (by omega)
    exact w_Ph_shows_46 _ _ _ _ _ _ ⟨fun _ => K, fun c => absurd hcn c⟩
  | succ m ih =>
    intro i hi' hi3 K
    have hcn : ¬ zI hi < zI i := fun q => by have := (zI_lt (by omega) (by omega)).mp q; omega
    rw [anyUp] at K
    have s2 := spI_bd (i := i) (w := w) (x := x) (by omega) (by omega) (by omega)
    have q2 := sq_bd (a := spI i w x - X e) (by omega)
    refine w_Ph_shows_46 _ _ _ _ _ _ ⟨fun c => absurd c hcn, fun _ => ⟨vp_N (by omega) (by omega), ?_⟩⟩
    rw [zI_cN (by omega), (H.2.1 e he).1, H.1.2.1, spot_c (by omega) (by omega), zI_sub, zI_mul, zI_sub, show zI i + 1 = zI (i + 1) from zI_add i 1]
    have cL : (zI (f : Int) < zI ((spI i w x - X e) * (spI i w x - X e))) ↔ (f : Int) < (spI i w x - X e) * (spI i w x - X e) := zI_lt (by omega) (by omega)
    refine ⟨fun c => ?_, fun c => ?_⟩
    · have z := cL.mp c
      rw [show shC w h g X Y e f x y i = false by unfold shC; rw [decide_eq_false (by omega)]; rfl, Bool.false_or] at K
      exact ih (i + 1) (by omega) (by omega) K
    · have z := mtn cL c
      refine up_c ok H he hy (by omega) ?_
      have eC : shC w h g X Y e f x y i = suA h g Y e y (f - (spI i w x - X e) * (spI i w x - X e)) := by unfold shC; rw [decide_eq_true (by omega), Bool.true_and]
      rw [eC] at K
      refine ⟨fun c2 => ?_, fun c2 => ?_⟩
      · rw [(b2_0 _).mp c2, Bool.false_or] at K
        exact ih (i + 1) (by omega) (by omega) K
      · rw [b2_t c2, Bool.true_or] at K; exact K
def shA (w h g : Nat) (X Y : Nat → Nat) (e f x y : Nat) : Bool := anyUp (shC w h g X Y e f x y) (lo2 (g % 4)) (hi2 (g % 4) - lo2 (g % 4) + 1).toNat
theorem shA_eq (w h g : Nat) (X Y : Nat → Nat) (e f x y : Nat) : shA w h g X Y e f x y = phA w h g X Y e f x y := by
  have b1 := lo2_bd (g % 4)
  have b2' := hi2_bd (g % 4)
  have b3 := lo2_bd (g / 4)
  have b4 := hi2_bd (g / 4)
  rw [Bool.eq_iff_iff]
  unfold shA phA
  rw [anyUp_iff, anyUp_iff]
  constructor
  · rintro ⟨i, h1, h2, h3⟩
    unfold shC suA at h3
    rw [Bool.and_eq_true, anyUp_iff] at h3
    obtain ⟨-, j, h4, h5, h6⟩ := h3
    refine ⟨i, by omega, by omega, ?_⟩
    rw [anyUp_iff]
    refine ⟨j, by omega, by omega, ?_⟩
    have t1 := (th2 (g % 4) (i := i) (by omega)).mpr (by omega)
    have t2 := (th2 (g / 4) (i := j) (by omega)).mpr (by omega)
    unfold suC at h6
    have h6 := of_decide_eq_true h6
    unfold phC thI
    simp [t1, t2]
    omega
  · rintro ⟨i, h1, h2, h3⟩
    rw [anyUp_iff] at h3
    obtain ⟨j, h4, h5, h6⟩ := h3
    unfold phC thI at h6
    simp only [Bool.and_eq_true, decide_eq_true_eq] at h6
    obtain ⟨⟨⟨t1, t2⟩, t3, t4⟩, t5⟩ := h6
    have u1 := (th2 (g % 4) (i := i) (by omega)).mp ⟨t1, t2⟩
    have u2 := (th2 (g / 4) (i := j) (by omega)).mp ⟨t3, t4⟩
    refine ⟨i, by omega, by omega, ?_⟩
    have q : 0 ≤ (spI j h y - Y e) * (spI j h y - Y e) := by
      rcases Int.le_total 0 (spI j h y - Y e) with z | z
      · exact Int.mul_nonneg z z
      · exact Int.mul_nonneg_of_nonpos_of_nonpos z z
    unfold shC suA
    rw [Bool.and_eq_true, anyUp_iff]
    refine ⟨decide_eq_true (by omega), j, by omega, by omega, ?_⟩
    unfold suC
    exact decide_eq_true (by omega)
theorem shows_c {G : rx_Gh} {F : Int32 → rx_Hp → Prop} (ok : HOk nb w h g t X Y A) (H : HC nb w h g t X Y A hc) {e f x y : Nat} (he : e < nb) (hf : f ≤ 99999) (hx : x ≤ w) (hy : y ≤ h) (K : F (b2 (phA w h g X Y e f x y)) hc) : Ev wC G 4 q_Ph_shows [.ref 47, .int (zI e), .int (zI f), .int (zI x), .int (zI y)] hc (rI F) := by
  have h6 := ok.1
  refine w_Ph_shows _ _ _ _ ?_
  have e1 := lo2I ⟨g, ok.2.2.2.1⟩
  have e2 := hi2I ⟨g, ok.2.2.2.1⟩
  simp only at e1 e2
  have b1 := lo2_bd (g % 4)
  have b2' := hi2_bd (g % 4)
  rw [has_c h6 H.1.1, H.1.2.2.2.1, e1, e2]
  refine ⟨fun c => ?_, fun _ => ?_⟩
  · have := (b2_0 _).mp c
    unfold isB at this
    rw [zI_toInt (by omega) (by omega)] at this
    simp at this
    omega
  · rw [← shA_eq] at K
    exact sh_loop ok H he hf hx hy (by omega) _ _ (by omega) (by omega) K
end SHW

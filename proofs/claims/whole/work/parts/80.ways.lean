/-! ways, both sides: how many unlike places -/
def wyB (P : Int → Int → Int) (n : Nat) (i j p : Int) : Bool := anyUp (fun u => anyUp (fun v => (decide (u.natAbs + v.natAbs = n) && (decide (u < i) || (decide (u = i) && decide (v < j)))) && decide (P u v = p)) (-(n : Int)) (2 * n + 1)) (-(n : Int)) (2 * n + 1)
theorem wyB_iff {P : Int → Int → Int} {n : Nat} {i j p : Int} : wyB P n i j p = true ↔ ∃ u v : Int, u.natAbs + v.natAbs = n ∧ (u < i ∨ (u = i ∧ v < j)) ∧ P u v = p := by
  unfold wyB
  rw [anyUp_iff]
  constructor
  · rintro ⟨u, h1, h2, h3⟩
    obtain ⟨v, h4, h5, h6⟩ := (anyUp_iff _ _ _).mp h3
    simp only [Bool.and_eq_true, Bool.or_eq_true, decide_eq_true_eq] at h6
    exact ⟨u, v, h6.1.1, h6.1.2, h6.2⟩
  · rintro ⟨u, v, h1, h2, h3⟩
    refine ⟨u, by omega, by omega, (anyUp_iff _ _ _).mpr ⟨v, by omega, by omega, ?_⟩⟩
    simp only [Bool.and_eq_true, Bool.or_eq_true, decide_eq_true_eq]
    exact ⟨⟨h1, h2⟩, h3⟩
def wyN (P : Int → Int → Int) (st : Int) (n : Nat) (i j : Int) : Bool := !decide (P i j = st) && !wyB P n i j (P i j)
def wyR (P : Int → Int → Int) (st : Int) (n : Nat) (i : Int) : Nat := (if wyN P st n i (-((n - i.natAbs : Nat) : Int)) = true then 1 else 0) + (if i.natAbs = n then 0 else if wyN P st n i ((n - i.natAbs : Nat) : Int) = true then 1 else 0)
def wyA (P : Int → Int → Int) (st : Int) (n : Nat) : Nat := sumUp (wyR P st n) (-(n : Int)) (2 * n + 1)
def wyP (w h : Nat) (X Y : Nat → Nat) (o : Nat) (u v : Int) : Int := spI u w (X o) * 1000 + spI v h (Y o)
def wyS (X Y : Nat → Nat) (b : Nat) : Int := (X b : Int) * 1000 + Y b
theorem wy_l1 {a v : Int} {n r : Nat} (h1 : a.natAbs + v.natAbs = n) (h2 : a.natAbs + r = n) (h3 : v < (r : Int)) : v = -(r : Int) := by omega
theorem wy_l2 {a v : Int} {n r : Nat} (h1 : a.natAbs + v.natAbs = n) (h2 : a.natAbs + r = n) (h3 : ¬ v = (r : Int)) : v = -(r : Int) := by omega
theorem wy_l3 {a : Int} {n r M : Nat} (hn : n ≤ 10) (h2 : a.natAbs + r = n) (h3 : ¬ M < 40) (h4 : M ≤ 40) (h5 : 0 < r → (M : Int) ≤ 2 * (a + n)) : M = 40 ∧ r = 0 := by omega
section WYS
variable {nb w h g t : Nat} {X Y A : Nat → Nat}
theorem wyP_bd (ok : HOk nb w h g t X Y A) {o : Nat} (ho : o < nb) {u v : Int} (hu : -10 ≤ u ∧ u ≤ 10) (hv : -10 ≤ v ∧ v ≤ 10) : -300000 ≤ wyP w h X Y o u v ∧ wyP w h X Y o u v ≤ 300000 := by
  have o7 := ok.2.2.2.2.2.2 o ho
  have hw := ok.2.1
  have hh := ok.2.2.1
  have b1 := spI_bd (i := u) (w := w) (x := X o) hu (by omega) (by omega)
  have b2 := spI_bd (i := v) (w := h) (x := Y o) hv (by omega) (by omega)
  unfold wyP; omega
theorem wyS_bd (ok : HOk nb w h g t X Y A) {b : Nat} (hb : b < nb) : 0 ≤ wyS X Y b ∧ wyS X Y b ≤ 300000 := by
  have o7 := ok.2.2.2.2.2.2 b hb
  have hw := ok.2.1
  have hh := ok.2.2.1
  unfold wyS; omega
/-- the array of places so far -/
def wyL (P : Nat → Int) (m : Nat) (hc : rx_Hp) : Prop := ∀ k, k < m → hc.2.1 45 k = zI (P k) ∧ -300000 ≤ P k ∧ P k ≤ 300000
theorem nw_c {G : rx_Gh} {F : Int32 → rx_Hp → Prop} {hc : rx_Hp} {L : Nat → Int} {M : Nat} (hM : M ≤ 40) (hL : wyL L M hc) {p : Int} (hp : -300000 ≤ p ∧ p ≤ 300000) (K0 : (∃ k, k < M ∧ L k = p) → F 0 hc) (K1 : (¬ ∃ k, k < M ∧ L k = p) → F 1 hc) : Ev wC G 1 q_Ba_isNew [.ref 44, .int (zI p), .int (zI M)] hc (rI F) := by
  refine w_Ba_isNew _ _ ?_
  have lp : ∀ (m k : Nat), k + m = M → (∀ s, s < k → ¬ L s = p) → Rn wC G 1 q_Ba_isNew 2 [some (.ref 44), some (.int (zI p)), some (.int (zI M)), some (.int (zI k))] [] hc (rI F) := by
    intro m
    induction m with
    | zero =>
      intro k hk hs
      have hcn : zI (M : Int) ≤ zI (k : Int) := by rw [zI_le (by omega) (by omega)]; omega
      refine w_Ba_isNew_2 _ _ _ ⟨fun _ => K1 ?_, fun c => absurd hcn c⟩
      rintro ⟨s, s1, s2⟩
      exact hs s (by omega) s2
    | succ m ih =>
      intro k hk hs
      have hcn : ¬ zI (M : Int) ≤ zI (k : Int) := by rw [zI_le (by omega) (by omega)]; omega
      have hc2 : ¬ 40 ≤ zI (k : Int) := by rw [show (40 : Int32) = zI 40 from by decide, zI_le (by omega) (by omega)]; omega
      have lk := hL k (by omega)
      refine w_Ba_isNew_2 _ _ _ ⟨fun c => absurd c hcn, fun _ => ⟨fun c => absurd c hc2, fun _ => ⟨vp_N (by omega) (by omega), ?_⟩⟩⟩
      rw [zI_cN (by omega), lk.1, zI_eq (by omega) (by omega), show zI (k : Int) + 1 = zI ((k + 1 : Nat) : Int) from zI_add k 1]
      refine ⟨fun c => K0 ⟨k, by omega, c⟩, fun c => ih (k + 1) (by omega) (fun s s1 => ?_)⟩
      by_cases q : s = k
      · subst q; exact c
      · exact hs s (by omega)
  exact lp M 0 (by omega) (fun s s1 => absurd s1 (Nat.not_lt_zero s))
/-- one place more, or not: from the set ahead of (i, j) to that ahead of (i, j + 1) -/
theorem wy_step {G : rx_Gh} {F : Int32 → rx_Hp → Prop} (ok : HOk nb w h g t X Y A) {b o n : Nat} (hb : b < nb) (ho : o < nb) (hn : n ≤ 10) {i : Int} (hi : -(n : Int) ≤ i ∧ i ≤ n) {s : Int} (hs : s = -1 ∨ s = 1) {L : Nat → Int} {M : Nat} {hc : rx_Hp} (H : HC nb w h g t X Y A hc) (hL : wyL L M hc) {B : Int → Prop} (hB : ∀ p, (∃ k, k < M ∧ L k = p) ↔ (¬ p = wyS X Y b ∧ B p)) (hM : M < 40 ∨ (M = 40 ∧ (wyP w h X Y o i (s * ((n - i.natAbs : Nat) : Int)) = wyS X Y b ∨ B (wyP w h X Y o i (s * ((n - i.natAbs : Nat) : Int))))))
    (K0 : (wyP w h X Y o i (s * ((n - i.natAbs : Nat) : Int)) = wyS X Y b ∨ B (wyP w h X Y o i (s * ((n - i.natAbs : Nat) : Int)))) → (∀ p, (∃ k, k < M ∧ L k = p) ↔ (¬ p = wyS X Y b ∧ (B p ∨ p = wyP w h X Y o i (s * ((n - i.natAbs : Nat) : Int))))) → Rn wC G 2 q_Ba_unlikeWays 71 [some (.ref 44), none, some (.int (zI o)), some (.int (zI n)), some (.int (zI M)), some (.int (zI (wyS X Y b))), some (.int (zI i)), some (.int (zI (spI i w (X o)))), some (.int (zI ((n - i.natAbs : Nat) : Int))), some (.int (zI (s + 2))), none] [] hc (rI F))
    (K1 : ∀ h' L', M < 40 → ¬ (wyP w h X Y o i (s * ((n - i.natAbs : Nat) : Int)) = wyS X Y b ∨ B (wyP w h X Y o i (s * ((n - i.natAbs : Nat) : Int)))) → Fr [] [45] hc h' → wyL L' (M + 1) h' → (∀ p, (∃ k, k < M + 1 ∧ L' k = p) ↔ (¬ p = wyS X Y b ∧ (B p ∨ p = wyP w h X Y o i (s * ((n - i.natAbs : Nat) : Int))))) → Rn wC G 2 q_Ba_unlikeWays 71 [some (.ref 44), none, some (.int (zI o)), some (.int (zI n)), some (.int (zI ((M + 1 : Nat) : Int))), some (.int (zI (wyS X Y b))), some (.int (zI i)), some (.int (zI (spI i w (X o)))), some (.int (zI ((n - i.natAbs : Nat) : Int))), some (.int (zI (s + 2))), none] [] h' (rI F)) :
    Rn wC G 2 q_Ba_unlikeWays 71 [some (.ref 44), none, some (.int (zI o)), some (.int (zI n)), some (.int (zI M)), some (.int (zI (wyS X Y b))), some (.int (zI i)), some (.int (zI (spI i w (X o)))), some (.int (zI ((n - i.natAbs : Nat) : Int))), some (.int (zI s)), none] [] hc (rI F) := by
  have h6 := ok.1
  have sb := wyS_bd ok hb
  have jb : -10 ≤ s * ((n - i.natAbs : Nat) : Int) ∧ s * ((n - i.natAbs : Nat) : Int) ≤ 10 := by rcases hs with rfl | rfl <;> omega
  have pb := wyP_bd ok ho (u := i) (v := s * ((n - i.natAbs : Nat) : Int)) (by omega) jb
  have hcn : ¬ 1 < zI s := by
    rcases hs with rfl | rfl <;> decide
  have ep : f_Ba_placeNumber (zI (spI i w (X o))) (f_Ha_spot (zI s * zI ((n - i.natAbs : Nat) : Int)) (hc.1 3 6) (hc.2.1 5 (zI (o : Int)).toNatClampNeg)) = zI (wyP w h X Y o i (s * ((n - i.natAbs : Nat) : Int))) := by
    rw [zI_cN (by omega), H.1.2.2.1, (H.2.1 o ho).2.1, zI_mul, spot_c jb.1 jb.2]
    unfold f_Ba_placeNumber wyP
    rw [show (1000 : Int32) = zI 1000 from by decide, zI_mul, zI_add]
  have same : (wyP w h X Y o i (s * ((n - i.natAbs : Nat) : Int)) = wyS X Y b ∨ B (wyP w h X Y o i (s * ((n - i.natAbs : Nat) : Int)))) → ∀ p, (∃ k, k < M ∧ L k = p) ↔ (¬ p = wyS X Y b ∧ (B p ∨ p = wyP w h X Y o i (s * ((n - i.natAbs : Nat) : Int)))) := by
    intro hz p
    rw [hB p]
    constructor
    · rintro ⟨a1, a2⟩; exact ⟨a1, Or.inl a2⟩
    · rintro ⟨a1, a2 | a2⟩
      · exact ⟨a1, a2⟩
      · subst a2
        rcases hz with z | z
        · exact absurd z a1
        · exact ⟨a1, z⟩
  refine w_Ba_unlikeWays_71 _ _ _ _ _ _ _ _ ⟨fun c => absurd c hcn, fun _ => ⟨vp_N (by omega) (by omega), ?_⟩⟩
  rw [ep, zI_eq (by omega) (by omega), show zI s + 2 = zI (s + 2) from zI_add s 2]
  refine ⟨fun c => K0 (Or.inl c) (same (Or.inl c)), fun c => ⟨fun d => ?_, fun d => ?_⟩⟩
  · rw [show (40 : Int32) = zI 40 from by decide, zI_le (by omega) (by omega)] at d
    rcases hM with hM | hM
    · omega
    · exact K0 hM.2 (same hM.2)
  · have d : ¬ 40 ≤ M := by
      rw [show (40 : Int32) = zI 40 from by decide, zI_le (by omega) (by omega)] at d; omega
    refine nw_c (by omega) hL (by omega) (fun hx => ?_) (fun hx => ?_)
    · refine ⟨fun _ => ?_, fun c => absurd rfl c⟩
      have := ((hB _).mp hx).2
      exact K0 (Or.inr this) (same (Or.inr this))
    · refine ⟨fun c => absurd c (by decide), fun _ => ⟨vp_N (by omega) (by omega), ?_⟩⟩
      rw [zI_cN (by omega), show zI (M : Int) + 1 = zI ((M + 1 : Nat) : Int) from zI_add M 1]
      have nb' : ¬ B (wyP w h X Y o i (s * ((n - i.natAbs : Nat) : Int))) := fun z => hx ((hB _).mpr ⟨c, z⟩)
      refine K1 _ (fun k => if k = M then wyP w h X Y o i (s * ((n - i.natAbs : Nat) : Int)) else L k) (by omega) (by rintro (z | z); exact c z; exact nb' z) (Fr.rf.pa (by decide)) (fun k hk => ?_) (fun p => ?_)
      · by_cases q : k = M
        · subst q; rw [pa_same]; simp only [if_true]; exact ⟨trivial, pb⟩
        · rw [pa_ne _ _ (by simp [q])]; simp only [if_neg q]; exact hL k (by omega)
      · constructor
        · rintro ⟨k, k1, k2⟩
          by_cases q : k = M
          · rw [if_pos q] at k2; subst k2; exact ⟨c, Or.inr rfl⟩
          · rw [if_neg q] at k2
            have := (hB p).mp ⟨k, by omega, k2⟩
            exact ⟨this.1, Or.inl this.2⟩
        · rintro ⟨a1, a2 | a2⟩
          · obtain ⟨k, k1, k2⟩ := (hB p).mpr ⟨a1, a2⟩
            exact ⟨k, by omega, by rw [if_neg (by omega)]; exact k2⟩
          · exact ⟨M, by omega, by rw [if_pos rfl]; exact a2.symm⟩
theorem wy_i {G : rx_Gh} {F : Int32 → rx_Hp → Prop} (ok : HOk nb w h g t X Y A) {b o n : Nat} (hb : b < nb) (ho : o < nb) (hn : n ≤ 10) : ∀ (m : Nat) (i : Int) (M : Nat) (L : Nat → Int) (hc : rx_Hp), HC nb w h g t X Y A hc → wyL L M hc → i + m = n + 1 → -(n : Int) ≤ i → (M : Int) ≤ 2 * (i + n) ∧ (-(n : Int) < i → (M : Int) ≤ 2 * (i + n) - 1) → (∀ p, (∃ k, k < M ∧ L k = p) ↔ (¬ p = wyS X Y b ∧ ∃ u v : Int, u.natAbs + v.natAbs = n ∧ u < i ∧ wyP w h X Y o u v = p)) → (∀ h', Fr [] [45] hc h' → F (zI (M + sumUp (wyR (wyP w h X Y o) (wyS X Y b) n) i m : Nat)) h') → Rn wC G 2 q_Ba_unlikeWays 30 [some (.ref 44), none, some (.int (zI o)), some (.int (zI n)), some (.int (zI M)), some (.int (zI (wyS X Y b))), some (.int (zI i)), none, none, none, none] [] hc (rI F) := by
  have h6 := ok.1
  intro m
  induction m with
  | zero =>
    intro i M L hc H hL hi hl hM hB K
    have hcn : zI (n : Int) < zI i := by rw [zI_lt (by omega) (by omega)]; omega
    exact w_Ba_unlikeWays_30 _ _ _ _ _ ⟨fun _ => K hc Fr.rf, fun c => absurd hcn c⟩
  | succ m ih =>
    intro i M L hc H hL hi hl hM hB K
    have hcn : ¬ zI (n : Int) < zI i := by rw [zI_lt (by omega) (by omega)]; omega
    refine w_Ba_unlikeWays_30 _ _ _ _ _ ⟨fun c => absurd c hcn, fun _ => ⟨vp_N (by omega) (by omega), ?_⟩⟩
    rw [abs_z (by omega) (by omega), zI_cN (by omega), H.1.2.1, (H.2.1 o ho).1, spot_c (by omega) (by omega), zI_sub, show (n : Int) - (i.natAbs : Int) = ((n - i.natAbs : Nat) : Int) by omega, show (-1 : Int32) = zI (-1) from by decide]
    obtain ⟨r, hr⟩ : ∃ r : Nat, n - i.natAbs = r := ⟨_, rfl⟩
    have hr2 : i.natAbs + r = n := by omega
    -- the two candidates' worth
    have N1 : wyN (wyP w h X Y o) (wyS X Y b) n i (-(r : Int)) = true ↔ ¬ (wyP w h X Y o i (-(r : Int)) = wyS X Y b ∨ ∃ u v : Int, u.natAbs + v.natAbs = n ∧ u < i ∧ wyP w h X Y o u v = wyP w h X Y o i (-(r : Int))) := by
      unfold wyN
      rw [Bool.and_eq_true, Bool.not_eq_true', Bool.not_eq_true', decide_eq_false_iff_not]
      have : wyB (wyP w h X Y o) n i (-(r : Int)) (wyP w h X Y o i (-(r : Int))) = true ↔ ∃ u v : Int, u.natAbs + v.natAbs = n ∧ u < i ∧ wyP w h X Y o u v = wyP w h X Y o i (-(r : Int)) := by
        rw [wyB_iff]
        constructor
        · rintro ⟨u, v, q1, q2 | ⟨q2, q3⟩, q4⟩
          · exact ⟨u, v, q1, q2, q4⟩
          · subst q2; omega
        · rintro ⟨u, v, q1, q2, q4⟩
          exact ⟨u, v, q1, Or.inl q2, q4⟩
      rw [← Bool.not_eq_true, this]
      constructor
      · rintro ⟨a1, a2⟩ (z | z)
        · exact a1 z
        · exact a2 z
      · intro hz; exact ⟨fun z => hz (Or.inl z), fun z => hz (Or.inr z)⟩
    have N2 : 0 < r → (wyN (wyP w h X Y o) (wyS X Y b) n i (r : Int) = true ↔ ¬ (wyP w h X Y o i (r : Int) = wyS X Y b ∨ ((∃ u v : Int, u.natAbs + v.natAbs = n ∧ u < i ∧ wyP w h X Y o u v = wyP w h X Y o i (r : Int)) ∨ wyP w h X Y o i (r : Int) = wyP w h X Y o i (-(r : Int))))) := by
      intro hr0
      unfold wyN
      rw [Bool.and_eq_true, Bool.not_eq_true', Bool.not_eq_true', decide_eq_false_iff_not]
      have : wyB (wyP w h X Y o) n i (r : Int) (wyP w h X Y o i (r : Int)) = true ↔ ((∃ u v : Int, u.natAbs + v.natAbs = n ∧ u < i ∧ wyP w h X Y o u v = wyP w h X Y o i (r : Int)) ∨ wyP w h X Y o i (r : Int) = wyP w h X Y o i (-(r : Int))) := by
        rw [wyB_iff]
        constructor
        · rintro ⟨u, v, q1, q2 | ⟨q2, q3⟩, q4⟩
          · exact Or.inl ⟨u, v, q1, q2, q4⟩
          · subst q2
            have : v = -(r : Int) := wy_l1 q1 hr2 q3
            subst this; exact Or.inr q4.symm
        · rintro (⟨u, v, q1, q2, q4⟩ | q4)
          · exact ⟨u, v, q1, Or.inl q2, q4⟩
          · exact ⟨i, -(r : Int), by omega, Or.inr ⟨rfl, by omega⟩, q4.symm⟩
      rw [← Bool.not_eq_true, this]
      constructor
      · rintro ⟨a1, a2⟩ (z | z)
        · exact a1 z
        · exact a2 z
      · intro hz; exact ⟨fun z => hz (Or.inl z), fun z => hz (Or.inr z)⟩
    have eR : wyR (wyP w h X Y o) (wyS X Y b) n i = (if wyN (wyP w h X Y o) (wyS X Y b) n i (-(r : Int)) = true then 1 else 0) + (if r = 0 then 0 else if wyN (wyP w h X Y o) (wyS X Y b) n i (r : Int) = true then 1 else 0) := by
      unfold wyR
      rw [hr]
      by_cases q : r = 0
      · rw [if_pos q, if_pos (show i.natAbs = n by omega)]
      · rw [if_neg q, if_neg (show ¬ i.natAbs = n by omega)]
    have eS : sumUp (wyR (wyP w h X Y o) (wyS X Y b) n) i (m + 1) = wyR (wyP w h X Y o) (wyS X Y b) n i + sumUp (wyR (wyP w h X Y o) (wyS X Y b) n) (i + 1) m := rfl
    rw [eS, eR] at K
    -- behind both candidates
    have last : ∀ (M' : Nat) (L' : Nat → Int) (h' : rx_Hp), Fr [] [45] hc h' → wyL L' M' h' → (M' : Int) ≤ 2 * (i + n) + 1 → (∀ p, (∃ k, k < M' ∧ L' k = p) ↔ (¬ p = wyS X Y b ∧ ((((∃ u v : Int, u.natAbs + v.natAbs = n ∧ u < i ∧ wyP w h X Y o u v = p) ∨ p = wyP w h X Y o i (-(r : Int)))) ∨ p = wyP w h X Y o i (r : Int)))) → M' = M + ((if wyN (wyP w h X Y o) (wyS X Y b) n i (-(r : Int)) = true then 1 else 0) + (if r = 0 then 0 else if wyN (wyP w h X Y o) (wyS X Y b) n i (r : Int) = true then 1 else 0)) → Rn wC G 2 q_Ba_unlikeWays 71 [some (.ref 44), none, some (.int (zI o)), some (.int (zI n)), some (.int (zI M')), some (.int (zI (wyS X Y b))), some (.int (zI i)), some (.int (zI (spI i w (X o)))), some (.int (zI (r : Int))), some (.int (zI (1 + 2))), none] [] h' (rI F) := by
      intro M' L' h' f' hL' hM' hB' eM
      refine w_Ba_unlikeWays_71 _ _ _ _ _ _ _ _ ⟨fun _ => ?_, fun c => absurd (by decide) c⟩
      rw [show zI i + 1 = zI (i + 1) from zI_add i 1]
      refine ih (i + 1) M' L' h' (H.fr f') hL' (by clear N1 N2; omega) (by clear N1 N2; omega) (by clear N1 N2; omega) (fun p => ?_) (fun h'' f'' => ?_)
      · rw [hB' p]
        constructor
        · rintro ⟨a1, (⟨u, v, q1, q2, q3⟩ | q) | q⟩
          · exact ⟨a1, u, v, q1, by omega, q3⟩
          · exact ⟨a1, i, -(r : Int), by omega, by omega, q.symm⟩
          · exact ⟨a1, i, (r : Int), by omega, by omega, q.symm⟩
        · rintro ⟨a1, u, v, q1, q2, q3⟩
          refine ⟨a1, ?_⟩
          by_cases z : u < i
          · exact Or.inl (Or.inl ⟨u, v, q1, z, q3⟩)
          · have : u = i := by omega
            subst this
            by_cases z2 : v = (r : Int)
            · subst z2; exact Or.inr q3.symm
            · have : v = -(r : Int) := wy_l2 q1 hr2 z2
              subst this; exact Or.inl (Or.inr q3.symm)
      · have K := K h'' (f'.tr f'')
        rw [← Nat.add_assoc, ← eM] at K
        exact K
    -- the second candidate
    have second : ∀ (M1 : Nat) (L1 : Nat → Int) (h1 : rx_Hp), Fr [] [45] hc h1 → wyL L1 M1 h1 → M1 ≤ 40 → (M1 : Int) ≤ 2 * (i + n) + 1 → (0 < r → (M1 : Int) ≤ 2 * (i + n)) → (∀ p, (∃ k, k < M1 ∧ L1 k = p) ↔ (¬ p = wyS X Y b ∧ ((∃ u v : Int, u.natAbs + v.natAbs = n ∧ u < i ∧ wyP w h X Y o u v = p) ∨ p = wyP w h X Y o i (-(r : Int))))) → M1 = M + (if wyN (wyP w h X Y o) (wyS X Y b) n i (-(r : Int)) = true then 1 else 0) → Rn wC G 2 q_Ba_unlikeWays 71 [some (.ref 44), none, some (.int (zI o)), some (.int (zI n)), some (.int (zI M1)), some (.int (zI (wyS X Y b))), some (.int (zI i)), some (.int (zI (spI i w (X o)))), some (.int (zI (r : Int))), some (.int (zI 1)), none] [] h1 (rI F) := by
      intro M1 L1 h1 f1 hL1 hM40 hM1 hM1r hB1 eM1
      have st := wy_step (G := G) (F := F) ok hb ho hn (i := i) (by omega) (s := 1) (Or.inr rfl) (H.fr f1) hL1 (B := fun p => (∃ u v : Int, u.natAbs + v.natAbs = n ∧ u < i ∧ wyP w h X Y o u v = p) ∨ p = wyP w h X Y o i (-(r : Int))) hB1
      rw [hr, Int.one_mul] at st
      refine st ?_ (fun hz hB2 => ?_) (fun h2 L2 l40 hz f2 hL2 hB2 => ?_)
      · by_cases q : M1 < 40
        · exact Or.inl q
        · right
          obtain ⟨l1, l2⟩ := wy_l3 hn hr2 q hM40 hM1r
          refine ⟨l1, Or.inr (Or.inr ?_)⟩
          subst l2; rfl
      · refine last M1 L1 h1 f1 hL1 (by clear hz N1 N2; omega) hB2 ?_
        rw [eM1]
        by_cases q : r = 0
        · rw [if_pos q]; rfl
        · rw [if_neg q, if_neg (fun z => ((N2 (by clear hz N1 N2; omega)).mp z) hz)]; rfl
      · have r0 : ¬ r = 0 := by
          rintro rfl
          exact hz (Or.inr (Or.inr rfl))
        refine last (M1 + 1) L2 h2 (f1.tr f2) hL2 (by clear hz N1 N2; omega) hB2 ?_
        rw [eM1, if_neg r0, if_pos ((N2 (by clear hz N1 N2; omega)).mpr hz)]; rfl
    have st := wy_step (G := G) (F := F) ok hb ho hn (i := i) (by omega) (s := -1) (Or.inl rfl) H hL (B := fun p => ∃ u v : Int, u.natAbs + v.natAbs = n ∧ u < i ∧ wyP w h X Y o u v = p) hB
    rw [hr, Int.neg_mul, Int.one_mul] at st
    rw [hr]
    refine st (Or.inl (by clear N1 N2; omega)) (fun hz hB2 => ?_) (fun h2 L2 l40 hz f2 hL2 hB2 => ?_)
    · refine second M L hc Fr.rf hL (by clear hz N1 N2; omega) (by clear hz N1 N2; omega) (by clear hz N1 N2; omega) hB2 ?_
      rw [if_neg (fun z => (N1.mp z) hz)]; rfl
    · refine second (M + 1) L2 h2 f2 hL2 (by clear hz N1 N2; omega) (by clear hz N1 N2; omega) (by clear hz N1 N2; omega) hB2 ?_
      rw [if_pos (N1.mpr hz)]
def wyI (nb : Nat) (b o n : Int32) : Bool := isB nb b && (isB nb o && (decide (0 ≤ n.toInt) && decide (n.toInt ≤ 10)))
def A_ways (nb w h : Nat) (X Y : Nat → Nat) (b o n : Int32) : Int32 := if wyI nb b o n = true then zI (wyA (wyP w h X Y o.toInt.toNat) (wyS X Y b.toInt.toNat) n.toInt.toNat : Nat) else -1
theorem a_ways_c {G : rx_Gh} {hc : rx_Hp} (ok : HOk nb w h g t X Y A) (H : HC nb w h g t X Y A hc) (b o n : Int32) {F : Int32 → rx_Hp → Prop} (K : ∀ h', Fr [] [45] hc h' → F (A_ways nb w h X Y b o n) h') : Ev wC G 3 q_GR_ways [.ref 0, .int b, .int o, .int n] hc (rI F) := by
  have h6 := ok.1
  have e1 := i_lt n 0 (by omega)
  have e2 := i_le n 10 (by omega)
  have no : wyI nb b o n = false → F (-1) hc := fun h => by
    have K := K hc Fr.rf
    unfold A_ways at K; rw [if_neg (by rw [h]; simp)] at K; exact K
  refine w_GR_ways b o n ?_
  rw [has_c h6 H.1.1, has_c h6 H.1.1]
  refine ⟨fun c => no (by unfold wyI; rw [(b2_0 _).mp c]; rfl), fun c1 => ⟨fun c => no (by unfold wyI; rw [(b2_0 _).mp c]; simp), fun c2 => ⟨fun c => no ?_, fun c3 => ⟨fun c4 => ?_, fun c => no ?_⟩⟩⟩⟩
  · have := e1.mp c; unfold wyI; simp; omega
  · have q1 := b2_t c1
    have q2 := b2_t c2
    have q3 := mtn e1 c3
    have q4 := e2.mp c4
    have hI : wyI nb b o n = true := by unfold wyI; rw [q1, q2]; simp; omega
    unfold A_ways at K
    rw [if_pos hI] at K
    obtain ⟨b', k1, rfl⟩ := isB_of q1
    obtain ⟨o', k2, rfl⟩ := isB_of q2
    have hn := zI_N (x := n) (by omega)
    obtain ⟨k, hk⟩ : ∃ k : Nat, n.toInt.toNat = k := ⟨_, rfl⟩
    rw [hk] at hn K
    rw [zI_back (by omega), zI_back (by omega)] at K
    rw [hn]
    refine w_Ba_unlikeWays _ _ _ ⟨vp_N (by omega) (by omega), ?_⟩
    have es : f_Ba_placeNumber (hc.2.1 4 (zI (b' : Int)).toNatClampNeg) (hc.2.1 5 (zI (b' : Int)).toNatClampNeg) = zI (wyS X Y b') := by
      rw [zI_cN (by omega), (H.2.1 b' k1).1, (H.2.1 b' k1).2.1]
      unfold f_Ba_placeNumber wyS
      rw [show (1000 : Int32) = zI 1000 from by decide, zI_mul, zI_add]
    rw [es, zI_neg]
    refine wy_i ok k1 k2 (by omega) (2 * k + 1) (-(k : Int)) 0 (fun _ => 0) hc H (fun s s1 => absurd s1 (Nat.not_lt_zero s)) (by omega) (by omega) (by omega) (fun p => ?_) (fun h' f' => ?_)
    · constructor
      · rintro ⟨s, s1, -⟩; exact absurd s1 (Nat.not_lt_zero s)
      · rintro ⟨-, u, v, z1, z2, -⟩; omega
    · rw [Nat.zero_add]; exact K h' f'
  · have := mtn e2 c; unfold wyI; simp; omega
end WYS

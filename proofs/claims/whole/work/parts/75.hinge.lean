/-! hinge and angles, both sides -/
section HGC
theorem tdN {m n : Nat} : ((m : Int).tdiv (n : Int)) = ((m / n : Nat) : Int) := rfl
theorem hgT_mul {a p : Nat} (ha : 1 ≤ a) : hgT a p * a ≤ 180 - p + a - 1 := by unfold hgT; exact Nat.div_mul_le_self _ _
theorem hgT_le {a p : Nat} (ha : 1 ≤ a) : hgT a p ≤ 180 - p + a - 1 := by unfold hgT; exact Nat.div_le_self _ _
theorem thr_c {a p : Nat} (ha : 1 ≤ a) (ha2 : a ≤ 180) (hp : p ≤ 180) : f_GR_throwsOf (zI a) (zI p) = zI (hgT a p : Nat) := by
  unfold f_GR_throwsOf
  have c : (1 : Int32) ≤ zI (a : Int) := by rw [show (1 : Int32) = zI 1 from by decide, zI_le (by omega) (by omega)]; omega
  rw [if_pos c, show (180 : Int32) = zI 180 from by decide, show (1 : Int32) = zI 1 from by decide, zI_sub, zI_add, zI_sub, zI_div (by omega) (by omega), show (180 : Int) - (p : Int) + (a : Int) - 1 = ((180 - p + a - 1 : Nat) : Int) by omega, tdN]
  rfl
theorem odd_t : ∀ n : Fin 400, (zI (n : Nat) &&& 1) = zI (((n : Nat) % 2 : Nat) : Int) := by decide +kernel
theorem odd_n {n : Nat} (h : n < 400) : (zI (n : Int) &&& 1) = zI ((n % 2 : Nat) : Int) := odd_t ⟨n, h⟩
theorem odd_1 {n : Nat} (h : n < 400) : (zI (n : Int) &&& 1) = 1 ↔ n % 2 = 1 := by
  rw [odd_n h, show (1 : Int32) = zI 1 from by decide, zI_eq (by omega) (by omega)]; omega
theorem hgE_bd {a p : Nat} (ha : 1 ≤ a) (ha2 : a ≤ 180) (hp : p ≤ 180) : -180 ≤ hgE a p ∧ hgE a p ≤ 360 := by
  have h1 := hgT_mul (a := a) (p := p) ha
  have h2 : ((hgT a p * a : Nat) : Int) = (hgT a p : Int) * (a : Int) := Int.natCast_mul _ _
  unfold hgE
  rw [Int.sub_mul]
  split <;> omega
theorem end_c {a p : Nat} (ha : 1 ≤ a) (ha2 : a ≤ 180) (hp : p ≤ 180) : f_GR_endOf (zI a) (zI p) = zI (hgE a p) := by
  unfold f_GR_endOf hgE
  have ht := hgT_le (a := a) (p := p) ha
  rw [thr_c ha ha2 hp]
  have o1 := odd_1 (n := hgT a p) (by omega)
  by_cases q : hgT a p % 2 = 1
  · rw [if_pos (o1.mpr q), if_pos q, show (1 : Int32) = zI 1 from by decide, zI_neg, zI_sub, zI_mul, zI_sub]
  · rw [if_neg (mt o1.mp q), if_neg q, zI_mul, zI_add]
theorem subN_z {a p : Nat} (h : p ≤ a) : zI (a : Int) - zI (p : Int) = zI ((a - p : Nat) : Int) := by rw [zI_sub, show (a : Int) - (p : Int) = ((a - p : Nat) : Int) by omega]
theorem meet_c {a p : Nat} (h1 : 1 ≤ p) (h2 : p < a) (h3 : a ≤ 180) : f_GR_endsMeet (zI a) (zI p) = b2 (hgM a p) := by
  have b1 := hgE_bd (a := a) (p := p) (by omega) h3 (by omega)
  have b3 := hgE_bd (a := a) (p := a - p) (by omega) h3 (by omega)
  unfold f_GR_endsMeet hgM
  rw [subN_z (by omega), end_c (by omega) h3 (by omega), end_c (by omega) h3 (by omega), zI_sub, zI_sub, flo_z (by omega) (by omega)]
  have z := zI_eq (a := (hgE a p - ((a : Int) - hgE a (a - p))) % 360) (b := 0) (by omega) (by omega)
  rw [show zI 0 = (0 : Int32) from by decide] at z
  by_cases q : (hgE a p - ((a : Int) - hgE a (a - p))) % 360 = 0
  · rw [if_pos (z.mpr q), decide_eq_true q]; rfl
  · rw [if_neg (mt z.mp q), decide_eq_false q]; rfl
theorem pThr {a : Nat} (ha : 1 ≤ a) (ha2 : a ≤ 180) (x : Int32) : p_GR_throwsOf (zI a) x := by
  intro _
  rw [show (0 : Int32) = zI 0 from by decide, zI_eq (by omega) (by omega)]; omega
theorem pMeet {a : Nat} (ha : 1 ≤ a) (ha2 : a ≤ 180) (x : Int32) : p_GR_endsMeet (zI a) x := ⟨pThr ha ha2 _, pThr ha ha2 _, (by decide : ¬ (360 : Int32) = 0)⟩
theorem unl_c {a p : Nat} (h1 : 1 ≤ p) (h2 : p < a) (h3 : a ≤ 180) : p_GR_unlikePlaces (zI a) (zI p) ∧ f_GR_unlikePlaces (zI a) (zI p) = zI (hgU a p : Nat) := by
  refine ⟨⟨pThr (by omega) h3 _, pThr (by omega) h3 _, pMeet (by omega) h3 _⟩, ?_⟩
  have g1 : 1 ≤ hgT a p := by unfold hgT; exact Nat.div_pos (by omega) (by omega)
  unfold f_GR_unlikePlaces hgU
  rw [meet_c h1 h2 h3, subN_z (by omega), thr_c (by omega) h3 (by omega), thr_c (by omega) h3 (by omega), b2_if, zI_add]
  cases hgM a p with
  | true =>
    simp only [if_true]
    rw [show (1 : Int32) = zI 1 from by decide, zI_sub]
    congr 1; omega
  | false =>
    simp only [Bool.false_eq_true, if_false]
    rw [show (0 : Int32) = zI 0 from by decide, zI_sub]
    congr 1
theorem div2_z {n : Nat} (h : n < 1000) : (zI (n : Int) + 1) / 2 = zI (((n + 1) / 2 : Nat) : Int) := by
  rw [show (1 : Int32) = zI 1 from by decide, show (2 : Int32) = zI ((2 : Nat) : Int) from by decide, zI_add, show (n : Int) + 1 = ((n + 1 : Nat) : Int) by omega, zI_div (by omega) (by omega), tdN]
theorem tur_c {a p : Nat} (h1 : 1 ≤ p) (h2 : p < a) (h3 : a ≤ 180) : p_GR_turnedPlaces (zI a) (zI p) ∧ f_GR_turnedPlaces (zI a) (zI p) = zI (hgV a p : Nat) := by
  refine ⟨⟨pThr (by omega) h3 _, pThr (by omega) h3 _, pMeet (by omega) h3 _⟩, ?_⟩
  have t1 := hgT_le (a := a) (p := p) (by omega)
  have t2 := hgT_le (a := a) (p := a - p) (by omega)
  have g2 : 1 ≤ hgT a (a - p) := by unfold hgT; exact Nat.div_pos (by omega) (by omega)
  unfold f_GR_turnedPlaces hgV
  rw [meet_c h1 h2 h3, subN_z (by omega), thr_c (by omega) h3 (by omega), thr_c (by omega) h3 (by omega), b2_if, div2_z (by omega), div2_z (by omega), odd_n (by omega), zI_add]
  cases hgM a p with
  | true =>
    simp only [if_true]
    rw [zI_sub]
    congr 1; omega
  | false =>
    simp only [Bool.false_eq_true, if_false]
    congr 1
def hngI (a p k : Int32) : Bool := (decide (1 ≤ a.toInt) && decide (a.toInt ≤ 180)) && ((decide (1 ≤ p.toInt) && decide (p.toInt < a.toInt)) && (decide (0 ≤ k.toInt) && decide (k.toInt ≤ 1)))
def A_hinge (a p k : Int32) : Int32 := if hngI a p k = true then (if k = 0 then zI (hgU a.toInt.toNat p.toInt.toNat : Nat) else zI (hgV a.toInt.toNat p.toInt.toNat : Nat)) else -1
theorem a_hinge_c {G : rx_Gh} {hc : rx_Hp} (a p k : Int32) {F : Int32 → rx_Hp → Prop} (K : F (A_hinge a p k) hc) : Ev wC G 5 q_GR_hinge [.ref 0, .int a, .int p, .int k] hc (rI F) := by
  have e1 := i_lt a 1 (by omega)
  have e2 := i_lt' a 180 (by omega)
  have e3 := i_lt p 1 (by omega)
  have e4 : a ≤ p ↔ a.toInt ≤ p.toInt := Int32.le_iff_toInt_le
  have e5 := i_lt k 0 (by omega)
  have e6 := i_le k 1 (by omega)
  have no : hngI a p k = false → F (-1) hc := fun h => by
    unfold A_hinge at K; rw [if_neg (by rw [h]; decide)] at K; exact K
  refine w_GR_hinge a p k ⟨fun c => no ?_, fun c1 => ⟨fun c => no ?_, fun c2 => ⟨fun c => no ?_, fun c3 => ⟨fun c => no ?_, fun c4 => ⟨fun c => no ?_, fun c5 => ⟨fun c6 => ?_, fun c => no ?_⟩⟩⟩⟩⟩⟩
  · have := e1.mp c; unfold hngI; simp; omega
  · have := e2.mp c; unfold hngI; simp; omega
  · have := e3.mp c; unfold hngI; simp; omega
  · have := e4.mp c; unfold hngI; simp; omega
  · have := e5.mp c; unfold hngI; simp; omega
  · have z1 := mtn e1 c1
    have z2 := mtn e2 c2
    have z3 := mtn e3 c3
    have z4 := mtn e4 c4
    have z5 := mtn e5 c5
    have z6 := e6.mp c6
    have hI : hngI a p k = true := by unfold hngI; simp; omega
    unfold A_hinge at K
    rw [if_pos hI] at K
    obtain ⟨u1, u2⟩ := unl_c (a := a.toInt.toNat) (p := p.toInt.toNat) (by omega) (by omega) (by omega)
    obtain ⟨v1, v2⟩ := tur_c (a := a.toInt.toNat) (p := p.toInt.toNat) (by omega) (by omega) (by omega)
    have ha := zI_N (x := a) (by omega)
    have hp := zI_N (x := p) (by omega)
    rw [← ha, ← hp] at u1 u2 v1 v2
    refine ⟨fun c => ⟨u1, ?_⟩, fun c => ⟨v1, ?_⟩⟩
    · rw [if_pos c] at K; rw [u2]; exact K
    · rw [if_neg c] at K; rw [v2]; exact K
  · have := mtn e6 c; unfold hngI; simp; omega
theorem a_hinge_m {G : rx_Gh} {hm : rx_Hp} (a p k : Int32) {F : Int32 → rx_Hp → Prop} (K : ∀ h', Fr hgF [20] hm h' → F (A_hinge a p k) h') : Ev wM G 4 q_M_hinge [.ref 0, .int a, .int p, .int k] hm (rI F) := by
  have e1 : f_M_in a 1 180 = b2 (decide (1 ≤ a.toInt) && decide (a.toInt ≤ 180)) := in_m a (lo := 1) (hi := 180) (by omega) (by omega)
  have e3 : f_M_in k 0 1 = b2 (decide (0 ≤ k.toInt) && decide (k.toInt ≤ 1)) := in_m k (lo := 0) (hi := 1) (by omega) (by omega)
  have no : hngI a p k = false → F (-1) hm := fun h => by
    have K := K hm Fr.rf
    unfold A_hinge at K; rw [if_neg (by rw [h]; decide)] at K; exact K
  refine w_M_hinge a p k ?_
  rw [e1, e3]
  refine ⟨fun c => no (by unfold hngI; rw [(b2_0 _).mp c]; rfl), fun c1 => ?_⟩
  have z1 := b2_t c1
  have z1' := z1
  simp only [Bool.and_eq_true, decide_eq_true_eq] at z1'
  have e2 : f_M_in p 1 (a - 1) = b2 (decide (1 ≤ p.toInt) && decide (p.toInt ≤ a.toInt - 1)) := by
    have := in_m p (lo := 1) (hi := a.toInt - 1) (by omega) (by omega)
    rw [show zI (a.toInt - 1) = a - 1 from by rw [← zI_sub, zI_self]; rfl] at this
    exact this
  rw [e2]
  refine ⟨fun c => no ?_, fun c2 => ⟨fun c => no (by unfold hngI; rw [(b2_0 _).mp c]; simp), fun c3 => ?_⟩⟩
  · have c := (b2_0 _).mp c
    simp only [Bool.and_eq_false_iff, decide_eq_false_iff_not] at c
    unfold hngI; simp; omega
  · have z2 := b2_t c2
    have z3 := b2_t c3
    simp only [Bool.and_eq_true, decide_eq_true_eq] at z2 z3
    have hI : hngI a p k = true := by unfold hngI; simp; omega
    unfold A_hinge at K
    rw [if_pos hI] at K
    have ha := zI_N (x := a) (by omega)
    have hp := zI_N (x := p) (by omega)
    have L := lh_m (G := G) (a := a.toInt.toNat) (p := p.toInt.toNat) (by omega) (by omega) (by omega) (hm := hm) (F := fun h1 => F ((if k = 0 then (h1.1 0 38) else (h1.1 0 39)) : Int32) h1) (fun h' f' g1 g2 => by
      rw [g1, g2]
      exact K h' f')
    rw [← ha, ← hp] at L
    exact L
/-! angles -/
def dsA (a : Nat) (k : Int32) : Bool := anyUp (fun p => decide (zI (hgU a p.toNat : Nat) = k)) 1 (a - 1)
def anR (k i : Int32) : Nat → Nat → Int32 → Int32
  | 0, _, fnd => if i = -1 then fnd else -1
  | m + 1, a, fnd => if dsA a k = true then (if fnd = i then zI a else anR k i m (a + 1) (fnd + 1)) else anR k i m (a + 1) fnd
def A_angles (k i : Int32) : Int32 := anR k i 180 1 0
theorem anR_neg {k i : Int32} (hi : i.toInt < -1) : ∀ (m a f : Nat), f + m ≤ 400 → anR k i m a (zI f) = -1
  | 0, a, f, _ => by
    rw [anR, if_neg]
    intro q; rw [q] at hi; exact absurd hi (by decide)
  | m + 1, a, f, h => by
    have n1 : ¬ zI (f : Int) = i := fun q => by rw [← q, zI_toInt (by omega) (by omega)] at hi; omega
    rw [anR, if_neg n1, show zI (f : Int) + 1 = zI ((f + 1 : Nat) : Int) from zI_add f 1, anR_neg hi m (a + 1) (f + 1) (by omega), anR_neg hi m (a + 1) f (by omega)]
    simp
theorem ds_m {G : rx_Gh} {F : Int32 → rx_Hp → Prop} {a : Nat} (ha : a ≤ 180) (k : Int32) : ∀ (m p : Nat) (hm : rx_Hp), p + m = a → 1 ≤ p → (∀ h', Fr hgF [20] hm h' → F (b2 (anyUp (fun p => decide (zI (hgU a p.toNat : Nat) = k)) p m)) h') → Rn wM G 4 q_M_doSee 2 [some (.ref 0), some (.int (zI a)), some (.int k), some (.int (zI p))] [] hm (rI F) := by
  intro m
  induction m with
  | zero =>
    intro p hm hp h1 K
    have hcn : zI (a : Int) ≤ zI (p : Int) := by rw [zI_le (by omega) (by omega)]; omega
    exact w_M_doSee_2 _ _ _ ⟨fun _ => K hm Fr.rf, fun c => absurd hcn c⟩
  | succ m ih =>
    intro p hm hp h1 K
    have hcn : ¬ zI (a : Int) ≤ zI (p : Int) := by rw [zI_le (by omega) (by omega)]; omega
    refine w_M_doSee_2 _ _ _ ⟨fun c => absurd c hcn, fun _ => lh_m h1 (by omega) ha (fun h' f' g1 g2 => ?_)⟩
    rw [g1, show zI (p : Int) + 1 = zI ((p + 1 : Nat) : Int) from zI_add p 1]
    refine ⟨fun c => ?_, fun c => ?_⟩
    · have K := K h' f'
      rw [anyUp, decide_eq_true (show zI (hgU a (p : Int).toNat : Nat) = k from c), Bool.true_or] at K
      exact K
    · refine ih (p + 1) h' (by omega) (by omega) (fun h'' f'' => ?_)
      have K := K h'' (f'.tr f'')
      rw [anyUp, decide_eq_false (show ¬ zI (hgU a (p : Int).toNat : Nat) = k from c), Bool.false_or] at K
      exact K
theorem an_m {G : rx_Gh} {F : Int32 → rx_Hp → Prop} (k i : Int32) : ∀ (m a : Nat) (fnd : Int32) (hm : rx_Hp), a + m = 181 → 1 ≤ a → (∀ h', Fr hgF [20] hm h' → F (anR k i m a fnd) h') → Rn wM G 5 q_M_angles 12 [some (.ref 0), some (.int k), some (.int i), some (.int fnd), some (.int (zI a))] [] hm (rI F) := by
  intro m
  induction m with
  | zero =>
    intro a fnd hm ha h1 K
    have hcn : 180 < zI (a : Int) := by rw [show (180 : Int32) = zI 180 from by decide, zI_lt (by omega) (by omega)]; omega
    refine w_M_angles_12 _ _ _ _ ⟨fun _ => K hm Fr.rf, fun c => absurd hcn c⟩
  | succ m ih =>
    intro a fnd hm ha h1 K
    have hcn : ¬ 180 < zI (a : Int) := by rw [show (180 : Int32) = zI 180 from by decide, zI_lt (by omega) (by omega)]; omega
    refine w_M_angles_12 _ _ _ _ ⟨fun c => absurd c hcn, fun _ => w_M_doSee _ _ ?_⟩
    rw [show zI (a : Int) + 1 = zI ((a + 1 : Nat) : Int) from zI_add a 1]
    refine ds_m (by omega) k (a - 1) 1 hm (by omega) (by omega) (fun h' f' => ⟨fun c => ?_, fun c => ⟨fun d => ?_, fun d => ?_⟩⟩)
    · have c : dsA a k = false := (b2_0 _).mp c
      refine ih (a + 1) fnd h' (by omega) (by omega) (fun h'' f'' => ?_)
      have K := K h'' (f'.tr f'')
      rw [anR, c] at K; exact K
    · have c : dsA a k = true := b2_t c
      have K := K h' f'
      rw [anR, c, if_pos rfl, if_pos d] at K; exact K
    · have c : dsA a k = true := b2_t c
      refine ih (a + 1) (fnd + 1) h' (by omega) (by omega) (fun h'' f'' => ?_)
      have K := K h'' (f'.tr f'')
      rw [anR, c, if_pos rfl, if_neg d] at K; exact K
theorem a_angles_m {G : rx_Gh} {hm : rx_Hp} (k i : Int32) {F : Int32 → rx_Hp → Prop} (K : ∀ h', Fr hgF [20] hm h' → F (A_angles k i) h') : Ev wM G 5 q_M_angles [.ref 0, .int k, .int i] hm (rI F) := by
  have e1 : (-1 : Int32) ≤ i ↔ -1 ≤ i.toInt := by
    have := i_le' i (-1) (by omega)
    rwa [show zI (-1) = (-1 : Int32) from by decide] at this
  refine w_M_angles k i ⟨fun _ => ?_, fun c => ?_⟩
  · exact an_m k i 180 1 0 hm (by omega) (by omega) K
  · have c := mtn e1 c
    have K := K hm Fr.rf
    unfold A_angles at K
    have := anR_neg (k := k) (i := i) (by omega) 180 1 0 (by omega)
    rw [show zI ((0 : Nat) : Int) = (0 : Int32) from by decide] at this
    rw [this] at K; exact K
theorem div360 {a : Nat} (h1 : 1 ≤ a) (h2 : a ≤ 180) : (360 : Int32) / zI (a : Int) = zI ((360 / a : Nat) : Int) := by
  rw [show (360 : Int32) = zI ((360 : Nat) : Int) from by decide, zI_div (by omega) (by omega), tdN]
theorem hgU_bd {a p : Nat} (h1 : 1 ≤ p) (h2 : p < a) (h3 : a ≤ 180) : hgU a p = hgU a (a - p) ∧ 360 / a ≤ hgU a p + 2 ∧ hgU a p ≤ 360 / a + 1 := by
  obtain ⟨_, _, _, _, _, _, -, -, -, -, -, q1, q2, q3⟩ := hg_use h1 h2 h3
  exact ⟨q1, q2, q3⟩
theorem dsA_iff {a : Nat} {k : Int32} : dsA a k = true ↔ ∃ p : Nat, 1 ≤ p ∧ p < a ∧ zI (hgU a p : Nat) = k := by
  unfold dsA
  rw [anyUp_iff]
  constructor
  · rintro ⟨q, h1, h2, h3⟩
    exact ⟨q.toNat, by omega, by omega, by simpa using h3⟩
  · rintro ⟨p, h1, h2, h3⟩
    exact ⟨p, by omega, by omega, by simpa using h3⟩
theorem ss_c {G : rx_Gh} {hc : rx_Hp} {F : Int32 → rx_Hp → Prop} {a : Nat} (h1 : 1 ≤ a) (h3 : a ≤ 180) (k : Int32) (K : F (b2 (dsA a k)) hc) : Ev wC G 5 q_GR_showsSomewhere [.int (zI a), .int k] hc (rI F) := by
  have e1 : ¬ zI (a : Int) < 1 := by rw [show (1 : Int32) = zI 1 from by decide, zI_lt (by omega) (by omega)]; omega
  have e2 : ¬ zI (a : Int) = 0 := by rw [show (0 : Int32) = zI 0 from by decide, zI_eq (by omega) (by omega)]; omega
  obtain ⟨Q, hQ⟩ : ∃ Q : Nat, 360 / a = Q := ⟨_, rfl⟩
  have hq : Q ≤ 360 := hQ ▸ Nat.div_le_self _ _
  refine w_GR_showsSomewhere _ _ ⟨fun c => absurd c e1, fun _ => ⟨e2, ?_⟩⟩
  rw [div360 h1 h3, hQ, show (2 : Int32) = zI 2 from by decide, show (1 : Int32) = zI 1 from by decide, zI_sub, zI_add, i_lt k _ (by omega), i_le k _ (by omega)]
  have out : (¬ ((Q : Int) - 2 ≤ k.toInt ∧ k.toInt ≤ (Q : Int) + 1)) → F 0 hc := by
    intro hb
    have : dsA a k = false := by
      cases q : dsA a k with
      | false => rfl
      | true =>
        obtain ⟨p, p1, p2, p3⟩ := dsA_iff.mp q
        obtain ⟨-, u2, u3⟩ := hgU_bd p1 p2 h3
        rw [hQ] at u2 u3
        rw [← p3, zI_toInt (by omega) (by omega)] at hb
        omega
    rw [this] at K; exact K
  refine ⟨fun c => out (by omega), fun c => ⟨fun d => ?_, fun d => out (by omega)⟩⟩
  have lp : ∀ (m p : Nat), p + m = a → 1 ≤ p → (∀ q : Nat, 1 ≤ q → q < p → ¬ zI (hgU a q : Nat) = k) → Rn wC G 5 q_GR_showsSomewhere 31 [some (.int (zI a)), some (.int k), some (.int (zI p))] [] hc (rI F) := by
    have fin : (∀ q : Nat, 1 ≤ q → q < a → 2 * q ≤ a → ¬ zI (hgU a q : Nat) = k) → F 0 hc := by
      intro hn
      have : dsA a k = false := by
        cases q : dsA a k with
        | false => rfl
        | true =>
          obtain ⟨p, p1, p2, p3⟩ := dsA_iff.mp q
          by_cases hp : 2 * p ≤ a
          · exact absurd p3 (hn p p1 p2 hp)
          · obtain ⟨u1, -, -⟩ := hgU_bd p1 p2 h3
            rw [u1] at p3
            exact absurd p3 (hn (a - p) (by omega) (by omega) (by omega))
      rw [this] at K; exact K
    intro m
    induction m with
    | zero =>
      intro p hp hp1 hn
      have c1 : zI (a : Int) ≤ zI (p : Int) := by rw [zI_le (by omega) (by omega)]; omega
      exact w_GR_showsSomewhere_31 _ _ _ ⟨fun _ => fin (fun q q1 q2 _ => hn q q1 (by omega)), fun c => absurd c1 c⟩
    | succ m ih =>
      intro p hp hp1 hn
      have c1 : ¬ zI (a : Int) ≤ zI (p : Int) := by rw [zI_le (by omega) (by omega)]; omega
      have c2 : zI (a : Int) < 2 * zI (p : Int) ↔ a < 2 * p := by rw [show (2 : Int32) = zI 2 from by decide, zI_mul, zI_lt (by omega) (by omega)]; omega
      obtain ⟨u1, u2⟩ := unl_c hp1 (show p < a by omega) h3
      refine w_GR_showsSomewhere_31 _ _ _ ⟨fun c => absurd c c1, fun _ => ⟨fun c => fin (fun q q1 q2 q3 => hn q q1 (by have := c2.mp c; omega)), fun c => ⟨u1, fun d => ?_, fun d => ?_⟩⟩⟩
      · rw [u2] at d
        have : dsA a k = true := dsA_iff.mpr ⟨p, hp1, by omega, d⟩
        rw [this] at K; exact K
      · rw [u2] at d
        rw [show zI (p : Int) + 1 = zI ((p + 1 : Nat) : Int) from zI_add p 1]
        refine ih (p + 1) (by omega) (by omega) (fun q q1 q2 => ?_)
        by_cases hq2 : q = p
        · subst hq2; exact d
        · exact hn q q1 (by omega)
  exact lp (a - 1) 1 (by omega) (by omega) (fun q q1 q2 => by omega)
theorem an_c {G : rx_Gh} {F : Int32 → rx_Hp → Prop} {hc : rx_Hp} (k i : Int32) : ∀ (m a : Nat) (fnd : Int32), a + m = 181 → 1 ≤ a → F (anR k i m a fnd) hc → Rn wC G 6 q_GR_angles 5 [none, some (.int k), some (.int i), some (.int fnd), some (.int (zI a))] [] hc (rI F) := by
  intro m
  induction m with
  | zero =>
    intro a fnd ha h1 K
    have hcn : 180 < zI (a : Int) := by rw [show (180 : Int32) = zI 180 from by decide, zI_lt (by omega) (by omega)]; omega
    refine w_GR_angles_5 _ _ _ _ ⟨fun _ => K, fun c => absurd hcn c⟩
  | succ m ih =>
    intro a fnd ha h1 K
    have hcn : ¬ 180 < zI (a : Int) := by rw [show (180 : Int32) = zI 180 from by decide, zI_lt (by omega) (by omega)]; omega
    refine w_GR_angles_5 _ _ _ _ ⟨fun c => absurd c hcn, fun _ => ss_c h1 (by omega) k ?_⟩
    rw [show zI (a : Int) + 1 = zI ((a + 1 : Nat) : Int) from zI_add a 1]
    rw [anR] at K
    refine ⟨fun c => ?_, fun c => ⟨fun d => ?_, fun d => ?_⟩⟩
    · rw [(b2_0 _).mp c] at K
      exact ih (a + 1) fnd (by omega) (by omega) K
    · rw [b2_t c, if_pos rfl, if_pos d] at K; exact K
    · rw [b2_t c, if_pos rfl, if_neg d] at K
      exact ih (a + 1) (fnd + 1) (by omega) (by omega) K
theorem a_angles_c {G : rx_Gh} {hc : rx_Hp} (k i : Int32) {F : Int32 → rx_Hp → Prop} (K : F (A_angles k i) hc) : Ev wC G 6 q_GR_angles [.ref 0, .int k, .int i] hc (rI F) :=
  w_GR_angles k i (an_c k i 180 1 0 (by omega) (by omega) K)
end HGC

/-! the tape as read: blanks passed over, signs, numbers -/
section TPE
variable (n : Nat) (tb : Nat → Nat)
def chA (q : Nat) : Nat := if q < n then tb q else 0
def skF : Nat → Nat → Nat
  | 0, p => p
  | f + 1, p => if p < n ∧ tb p = 32 then skF f (p + 1) else p
def sk (p : Nat) : Nat := skF n tb (n - p) p
def dgB (q : Nat) : Bool := decide (q < n) && (decide (48 ≤ tb q) && decide (tb q ≤ 57))
def nmF : Nat → Nat → Nat → Nat ⊕ (Nat × Nat)
  | 0, q, v => if dgB n tb q = true then .inl q else .inr (q, v)
  | f + 1, q, v => if dgB n tb q = true then nmF f (q + 1) (10 * v + (tb q - 48)) else .inr (q, v)
def numA (D q : Nat) : Nat ⊕ (Nat × Nat) := if dgB n tb q = true then nmF n tb D q 0 else .inl q
end TPE
section TPF
variable {n : Nat} {tb : Nat → Nat}
theorem sk_eq (p : Nat) : sk n tb p = if p < n ∧ tb p = 32 then sk n tb (p + 1) else p := by
  unfold sk
  by_cases h : p < n
  · rw [show n - p = (n - (p + 1)) + 1 by omega, skF]
  · rw [show n - p = 0 by omega, skF, if_neg (by omega)]
theorem sk_bd : ∀ (m p : Nat), p + m = n → p ≤ sk n tb p ∧ sk n tb p ≤ n
  | 0, p, h => by rw [sk_eq, if_neg (by omega)]; omega
  | m + 1, p, h => by
    rw [sk_eq]
    have := sk_bd m (p + 1) (by omega)
    split <;> omega
theorem sk_ge {p : Nat} (h : p ≤ n) : p ≤ sk n tb p := (sk_bd (n - p) p (by omega)).1
theorem sk_le {p : Nat} (h : p ≤ n) : sk n tb p ≤ n := (sk_bd (n - p) p (by omega)).2
theorem sk_nb : ∀ (m p : Nat), p + m = n → sk n tb p < n → ¬ tb (sk n tb p) = 32
  | 0, p, h => by rw [sk_eq, if_neg (by omega)]; omega
  | m + 1, p, h => by
    rw [sk_eq]
    by_cases q : p < n ∧ tb p = 32
    · rw [if_pos q]; exact sk_nb m (p + 1) (by omega)
    · rw [if_neg q]; intro h1 h2; exact q ⟨h1, h2⟩
theorem sk_sk {p : Nat} (h : p ≤ n) : sk n tb (sk n tb p) = sk n tb p := by
  rw [sk_eq (sk n tb p), if_neg]
  rintro ⟨h1, h2⟩
  exact sk_nb (n - p) p (by omega) h1 h2
theorem chA_le (ok : TOk n tb) (q : Nat) : chA n tb q ≤ 255 := by
  unfold chA
  split
  · exact (ok.2 q (by assumption)).2
  · omega
theorem chA_0 (ok : TOk n tb) {q : Nat} : chA n tb q = 0 ↔ n ≤ q := by
  unfold chA
  by_cases h : q < n
  · rw [if_pos h]; have := (ok.2 q h).1; omega
  · rw [if_neg h]; omega
theorem chA_lt {q c : Nat} (h : chA n tb q = c) (hc : 0 < c) : q < n := by
  unfold chA at h
  by_cases z : q < n
  · exact z
  · rw [if_neg z] at h; omega
/-- at a place of the tape: class, model -/
def AtC (n : Nat) (tb : Nat → Nat) (p : Nat) (hc : rx_Hp) : Prop := TC n tb hc ∧ hc.1 1 2 = zI p
def AtM (n : Nat) (tb : Nat → Nat) (p : Nat) (hm : rx_Hp) : Prop := TM n tb hm ∧ hm.1 0 3 = zI p
theorem AtC.to {p p' : Nat} {hc : rx_Hp} (h : AtC n tb p hc) {x : Int32} (hx : x = zI p') : AtC n tb p' (rx_pf hc 1 2 x) := ⟨h.1.fr (Fr.rf.pf (by decide) : Fr [(1, 2)] [] hc _), by rw [pf_same, hx]⟩
theorem AtM.to {p p' : Nat} {hm : rx_Hp} (h : AtM n tb p hm) {x : Int32} (hx : x = zI p') : AtM n tb p' (rx_pf hm 0 3 x) := ⟨h.1.fr (Fr.rf.pf (by decide) : Fr [(0, 3)] [] hm _), by rw [pf_same, hx]⟩
theorem AtC.fr {p : Nat} {a b : rx_Hp} {fs : List (Nat × Nat)} {as : List Nat} (h : AtC n tb p a) (f : Fr fs as a b) (h1 : (1, 1) ∉ fs ∧ (1, 2) ∉ fs := by decide) (h2 : 2 ∉ as := by decide) : AtC n tb p b := ⟨h.1.fr f h1.1 h2, (f.1 1 2 h1.2).trans h.2⟩
theorem AtM.fr {p : Nat} {a b : rx_Hp} {fs : List (Nat × Nat)} {as : List Nat} (h : AtM n tb p a) (f : Fr fs as a b) (h1 : (0, 2) ∉ fs ∧ (0, 3) ∉ fs := by decide) (h2 : 1 ∉ as := by decide) : AtM n tb p b := ⟨h.1.fr f h1.1 h2, (f.1 0 3 h1.2).trans h.2⟩
def zM (c : Nat) : Int32 := if c = 0 then -1 else zI c
theorem zM_eq {c : Nat} (h : c ≤ 255) {k : Nat} (hk : 1 ≤ k) (hk2 : k ≤ 255) : zM c = zI k ↔ c = k := by
  unfold zM
  by_cases q : c = 0
  · rw [if_pos q, show (-1 : Int32) = zI (-1) from by decide, zI_eq (by omega) (by omega)]; omega
  · rw [if_neg q, zI_eq (by omega) (by omega)]; omega
theorem zM_m1 {c : Nat} (h : c ≤ 255) : zM c = -1 ↔ c = 0 := by
  unfold zM
  by_cases q : c = 0
  · rw [if_pos q]; simp [q]
  · rw [if_neg q, show (-1 : Int32) = zI (-1) from by decide, zI_eq (by omega) (by omega)]; omega
theorem lk_c {G : rx_Gh} {F : Int32 → rx_Hp → Prop} (ok : TOk n tb) : ∀ (m p : Nat) (hc : rx_Hp), p + m = n → AtC n tb p hc → (∀ h', AtC n tb (sk n tb p) h' → Fr [(1, 2)] [] hc h' → F (zI (chA n tb (sk n tb p) : Nat)) h') → Rn wC G 1 q_Ta_look 0 [some (.ref 1)] [] hc (rI F) := by
  have o1 := ok.1
  intro m
  induction m with
  | zero =>
    intro p hc hp T K
    refine w_Ta_look_0 ?_
    rw [T.1.1, T.2]
    refine ⟨fun _ => ?_, fun c => absurd ((zI_le (by omega) (by omega)).mpr (by omega)) c⟩
    have e1 : sk n tb p = p := by rw [sk_eq, if_neg (by omega)]
    rw [e1] at K
    have := K hc T Fr.rf
    rw [(chA_0 ok).mpr (by omega)] at this
    exact this
  | succ m ih =>
    intro p hc hp T K
    have b := ok.2 p (by omega)
    refine w_Ta_look_0 ?_
    rw [T.1.1, T.2, zI_cN (by omega), T.1.2 p (by omega)]
    refine ⟨fun c => ?_, fun _ => ⟨vp_N (by omega) (by omega), fun c => ?_, fun c => ?_⟩⟩
    · have := (zI_le (by omega) (by omega)).mp c; omega
    · have c : tb p = 32 := by
        rw [show (32 : Int32) = zI 32 from by decide, zI_eq (by omega) (by omega)] at c; omega
      have e1 : sk n tb p = sk n tb (p + 1) := by rw [sk_eq, if_pos ⟨by omega, c⟩]
      rw [e1] at K
      exact ih (p + 1) _ (by omega) (T.to (zI_add p 1)) (fun h' T' f' => K h' T' (Fr.tr (Fr.rf.pf (by decide)) f'))
    · have c : ¬ tb p = 32 := fun z => c (by rw [z]; decide)
      have e1 : sk n tb p = p := by rw [sk_eq, if_neg (fun z => c z.2)]
      rw [e1] at K
      have := K hc T Fr.rf
      unfold chA at this
      rw [if_pos (by omega)] at this
      exact this
theorem look_c {G : rx_Gh} {F : Int32 → rx_Hp → Prop} (ok : TOk n tb) {p : Nat} {hc : rx_Hp} (hp : p ≤ n) (T : AtC n tb p hc) (K : ∀ h', AtC n tb (sk n tb p) h' → Fr [(1, 2)] [] hc h' → F (zI (chA n tb (sk n tb p) : Nat)) h') : Ev wC G 1 q_Ta_look [.ref 1] hc (rI F) :=
  w_Ta_look (lk_c ok (n - p) p hc (by omega) T K)
theorem take_c {G : rx_Gh} {F : Int32 → rx_Hp → Prop} (ok : TOk n tb) {p c : Nat} {hc : rx_Hp} (hp : p ≤ n) (h1 : c ≤ 255) (T : AtC n tb p hc) (K1 : chA n tb (sk n tb p) = c → ∀ h', AtC n tb (sk n tb p + 1) h' → Fr [(1, 2)] [] hc h' → F 1 h') (K0 : ¬ chA n tb (sk n tb p) = c → ∀ h', AtC n tb (sk n tb p) h' → Fr [(1, 2)] [] hc h' → F 0 h') : Ev wC G 2 q_Ta_take [.ref 1, .int (zI c)] hc (rI F) := by
  have := chA_le ok (sk n tb p)
  refine w_Ta_take _ (look_c ok hp T (fun h' T' f' => ?_))
  rw [zI_eq (by omega) (by omega)]
  refine ⟨fun q => K1 (by omega) _ (T'.to ?_) (f'.pf (by decide)), fun q => K0 (by omega) h' T' f'⟩
  rw [T'.2]; exact zI_add _ 1
theorem here_m (ok : TOk n tb) {p : Nat} {hm : rx_Hp} (hp : p ≤ n) (T : AtM n tb p hm) : p_M_here hm ∧ f_M_here hm = zM (chA n tb p) := by
  have o1 := ok.1
  unfold p_M_here f_M_here
  rw [T.1.1, T.2, zI_cN (by omega)]
  have c := zI_le (a := (n : Int)) (b := (p : Int)) (by omega) (by omega)
  by_cases q : p < n
  · have b := ok.2 p q
    refine ⟨fun _ => vp_N (by omega) (by omega), ?_⟩
    rw [if_neg (fun z => by have := c.mp z; omega), T.1.2 p q]
    unfold zM chA
    rw [if_pos q, if_neg (by omega)]
  · refine ⟨fun z => absurd (c.mpr (by omega)) z, ?_⟩
    rw [if_pos (c.mpr (by omega))]
    unfold zM chA
    rw [if_neg q, if_pos rfl]
theorem lk_m {G : rx_Gh} {F : Int32 → rx_Hp → Prop} (ok : TOk n tb) : ∀ (m p : Nat) (hm : rx_Hp), p + m = n → AtM n tb p hm → (∀ h', AtM n tb (sk n tb p) h' → Fr [(0, 3)] [] hm h' → F (zM (chA n tb (sk n tb p))) h') → Rn wM G 2 q_M_look 0 [some (.ref 0)] [] hm (rI F) := by
  have o1 := ok.1
  intro m
  induction m with
  | zero =>
    intro p hm hp T K
    obtain ⟨p1, p2⟩ := here_m ok (by omega) T
    have e0 : chA n tb p = 0 := (chA_0 ok).mpr (by omega)
    have e1 : sk n tb p = p := by rw [sk_eq, if_neg (by omega)]
    refine w_M_look_0 ⟨p1, ?_⟩
    rw [p2]
    refine ⟨fun c => ?_, fun _ => ?_⟩
    · rw [e0] at c; exact absurd c (by decide)
    · rw [e1] at K; exact K hm T Fr.rf
  | succ m ih =>
    intro p hm hp T K
    obtain ⟨p1, p2⟩ := here_m ok (by omega) T
    have cl := chA_le ok p
    have ec : chA n tb p = tb p := by unfold chA; rw [if_pos (by omega)]
    refine w_M_look_0 ⟨p1, ?_⟩
    rw [p2]
    have z : zM (chA n tb p) = 32 ↔ chA n tb p = 32 := zM_eq cl (k := 32) (by omega) (by omega)
    refine ⟨fun c => ?_, fun c => ?_⟩
    · have c := z.mp c
      have e1 : sk n tb p = sk n tb (p + 1) := by rw [sk_eq, if_pos ⟨by omega, by rw [← ec]; exact c⟩]
      rw [e1] at K
      exact ih (p + 1) _ (by omega) (T.to (by rw [T.2]; exact zI_add p 1)) (fun h' T' f' => K h' T' (Fr.tr (Fr.rf.pf (by decide)) f'))
    · have c := mt z.mpr c
      have e1 : sk n tb p = p := by rw [sk_eq, if_neg (fun z => c (by rw [ec]; exact z.2))]
      rw [e1] at K
      exact K hm T Fr.rf
theorem look_m {G : rx_Gh} {F : Int32 → rx_Hp → Prop} (ok : TOk n tb) {p : Nat} {hm : rx_Hp} (hp : p ≤ n) (T : AtM n tb p hm) (K : ∀ h', AtM n tb (sk n tb p) h' → Fr [(0, 3)] [] hm h' → F (zM (chA n tb (sk n tb p))) h') : Ev wM G 2 q_M_look [.ref 0] hm (rI F) :=
  w_M_look (lk_m ok (n - p) p hm (by omega) T K)
/-! digits, numbers -/
theorem dg_m (ok : TOk n tb) (q : Nat) : f_M_isDigit (zM (chA n tb q)) = b2 (dgB n tb q) := by
  have cl := chA_le ok q
  unfold f_M_isDigit dgB chA zM
  by_cases h : q < n
  · have b := ok.2 q h
    rw [if_pos h, if_neg (show ¬ tb q = 0 by omega), decide_eq_true h, Bool.true_and]
    have r1 := zI_lt (a := (tb q : Int)) (b := 48) (by omega) (by omega)
    have r2 := zI_lt (a := 57) (b := (tb q : Int)) (by omega) (by omega)
    rw [show zI 48 = (48 : Int32) from by decide] at r1
    rw [show zI 57 = (57 : Int32) from by decide] at r2
    by_cases q1 : tb q < 48
    · rw [if_pos (r1.mpr (by omega)), decide_eq_false (by omega)]; rfl
    · rw [if_neg (fun z => q1 (by have := r1.mp z; omega)), decide_eq_true (by omega), Bool.true_and]
      by_cases q2 : 57 < tb q
      · rw [if_pos (r2.mpr (by omega)), decide_eq_false (by omega)]; rfl
      · rw [if_neg (fun z => q2 (by have := r2.mp z; omega)), decide_eq_true (by omega)]; rfl
  · rw [if_neg h, if_pos rfl, decide_eq_false h, Bool.false_and]; decide
theorem dg_ch {q : Nat} (h : dgB n tb q = true) : q < n ∧ chA n tb q = tb q ∧ 48 ≤ tb q ∧ tb q ≤ 57 ∧ zM (chA n tb q) = zI (tb q : Nat) := by
  unfold dgB at h
  simp only [Bool.and_eq_true, decide_eq_true_eq] at h
  have e : chA n tb q = tb q := by unfold chA; rw [if_pos h.1]
  refine ⟨h.1, e, h.2.1, h.2.2, ?_⟩
  rw [e]; unfold zM; rw [if_neg (by omega)]
theorem nmF_bd : ∀ (f q v : Nat), q ≤ n → (∀ e, nmF n tb f q v = .inl e → q ≤ e ∧ e ≤ n) ∧ (∀ p' u, nmF n tb f q v = .inr (p', u) → q ≤ p' ∧ p' ≤ n ∧ p' ≤ q + f ∧ u < (v + 1) * 10 ^ f)
  | 0, q, v, hq => by
    unfold nmF
    by_cases h : dgB n tb q = true
    · rw [if_pos h]
      refine ⟨fun e he => ?_, fun p' u he => (by cases he)⟩
      cases he; omega
    · rw [if_neg h]
      refine ⟨fun e he => (by cases he), fun p' u he => ?_⟩
      cases he; simp; omega
  | f + 1, q, v, hq => by
    unfold nmF
    by_cases h : dgB n tb q = true
    · rw [if_pos h]
      have d := dg_ch h
      obtain ⟨h1, h2⟩ := nmF_bd f (q + 1) (10 * v + (tb q - 48)) (by omega)
      refine ⟨fun e he => by have := h1 e he; omega, fun p' u he => ?_⟩
      obtain ⟨a1, a2, a3, a4⟩ := h2 p' u he
      refine ⟨by omega, a2, by omega, Nat.lt_of_lt_of_le a4 ?_⟩
      rw [Nat.pow_succ, Nat.mul_comm (10 ^ f) 10, ← Nat.mul_assoc]
      exact Nat.mul_le_mul_right _ (by omega)
    · rw [if_neg h]
      refine ⟨fun e he => (by cases he), fun p' u he => ?_⟩
      cases he
      refine ⟨by omega, by omega, by omega, ?_⟩
      have : 1 ≤ 10 ^ (f + 1) := Nat.one_le_pow _ _ (by omega)
      have := Nat.mul_le_mul_left (v + 1) this
      omega
theorem nm_c {G : rx_Gh} {F : Int32 → rx_Hp → Prop} (ok : TOk n tb) {D : Nat} (hD : D ≤ 4) : ∀ (f q v d : Nat) (hc : rx_Hp), d + f = D → 1 ≤ d → q ≤ n → v < 10 ^ d → AtC n tb q hc → (∀ e h', nmF n tb f q v = .inl e → AtC n tb e h' → Fr [(1, 2)] [] hc h' → F (-1) h') → (∀ p' u h', nmF n tb f q v = .inr (p', u) → AtC n tb p' h' → Fr [(1, 2)] [] hc h' → F (zI u) h') → Rn wC G 1 q_Ta_number 4 [some (.ref 1), some (.int (zI D)), some (.int (zI v)), some (.int (zI d))] [] hc (rI F) := by
  have o1 := ok.1
  intro f
  have stop : ∀ (q v d : Nat) (hc : rx_Hp), 1 ≤ d → d ≤ 4 → q ≤ n → AtC n tb q hc → ¬ dgB n tb q = true → (F (zI v) hc) → (dgB n tb q = true → d = D → F (-1) hc) → (dgB n tb q = true → ¬ d = D → Rn wC G 1 q_Ta_number 4 [some (.ref 1), some (.int (zI D)), some (.int (10 * zI v + zI (tb q : Nat) - 48)), some (.int (zI d + 1))] [] (rx_pf hc 1 2 (zI q + 1)) (rI F)) → Rn wC G 1 q_Ta_number 4 [some (.ref 1), some (.int (zI D)), some (.int (zI v)), some (.int (zI d))] [] hc (rI F) := by
    intro q v d hc hd hd4 hq T hn K1 _ _
    have d0 : ¬ zI (d : Int) = 0 := by rw [z0_iff (by omega)]; omega
    refine w_Ta_number_4 _ _ _ ?_
    rw [T.1.1, T.2, if_neg d0]
    refine ⟨fun _ => K1, fun c => ?_⟩
    have c : q < n := by
      have := mtn (zI_le (a := (n : Int)) (b := (q : Int)) (by omega) (by omega)) c; omega
    have b := ok.2 q c
    rw [zI_cN (by omega), T.1.2 q c]
    refine ⟨vp_N (by omega) (by omega), fun _ => K1, fun c1 => ⟨fun _ => K1, fun c2 => ?_⟩⟩
    exfalso
    rw [show (48 : Int32) = zI 48 from by decide, zI_lt (by omega) (by omega)] at c1
    rw [show (57 : Int32) = zI 57 from by decide, zI_lt (by omega) (by omega)] at c2
    apply hn
    unfold dgB; simp; omega
  have more : ∀ (q v d : Nat) (hc : rx_Hp), 1 ≤ d → d ≤ 4 → q ≤ n → AtC n tb q hc → dgB n tb q = true → (d = D → F (-1) hc) → (¬ d = D → Rn wC G 1 q_Ta_number 4 [some (.ref 1), some (.int (zI D)), some (.int (10 * zI v + zI (tb q : Nat) - 48)), some (.int (zI d + 1))] [] (rx_pf hc 1 2 (zI q + 1)) (rI F)) → Rn wC G 1 q_Ta_number 4 [some (.ref 1), some (.int (zI D)), some (.int (zI v)), some (.int (zI d))] [] hc (rI F) := by
    intro q v d hc hd hd4 hq T hn K1 K2
    have d0 : ¬ zI (d : Int) = 0 := by rw [z0_iff (by omega)]; omega
    obtain ⟨e1, e2, e3, e4, -⟩ := dg_ch hn
    refine w_Ta_number_4 _ _ _ ?_
    rw [T.1.1, T.2, if_neg d0, zI_cN (by omega), T.1.2 q e1, zI_eq (a := (d : Int)) (by omega) (by omega)]
    refine ⟨fun c => ?_, fun _ => ⟨vp_N (by omega) (by omega), fun c => ?_, fun _ => ⟨fun c => ?_, fun _ => ⟨fun c => K1 (by omega), fun c => K2 (by omega)⟩⟩⟩⟩
    · have := (zI_le (a := (n : Int)) (b := (q : Int)) (by omega) (by omega)).mp c; omega
    · rw [show (48 : Int32) = zI 48 from by decide, zI_lt (by omega) (by omega)] at c; omega
    · rw [show (57 : Int32) = zI 57 from by decide, zI_lt (by omega) (by omega)] at c; omega
  induction f with
  | zero =>
    intro q v d hc hd hd1 hq hv T Kl Kr
    by_cases h : dgB n tb q = true
    · refine more q v d hc hd1 (by omega) hq T h (fun _ => Kl q hc (by unfold nmF; rw [if_pos h]) T Fr.rf) (fun z => absurd (by omega) z)
    · exact stop q v d hc hd1 (by omega) hq T h (Kr q v hc (by unfold nmF; rw [if_neg h]) T Fr.rf) (fun z => absurd z h) (fun z => absurd z h)
  | succ f ih =>
    intro q v d hc hd hd1 hq hv T Kl Kr
    by_cases h : dgB n tb q = true
    · obtain ⟨e1, e2, e3, e4, -⟩ := dg_ch h
      refine more q v d hc hd1 (by omega) hq T h (fun z => by omega) (fun _ => ?_)
      have hv4 : 10 ^ d ≤ 10 ^ 4 := Nat.pow_le_pow_right (by omega) (by omega)
      have hv5 : (10 : Nat) ^ 4 = 10000 := rfl
      rw [show 10 * zI (v : Int) + zI (tb q : Nat) - 48 = zI ((10 * v + (tb q - 48) : Nat) : Int) from by
        rw [show (10 : Int32) = zI 10 from by decide, show (48 : Int32) = zI 48 from by decide, zI_mul, zI_add, zI_sub]; congr 1; omega, show zI (d : Int) + 1 = zI ((d + 1 : Nat) : Int) from zI_add d 1]
      have en : nmF n tb (f + 1) q v = nmF n tb f (q + 1) (10 * v + (tb q - 48)) := by
        conv => lhs; unfold nmF
        rw [if_pos h]
      rw [en] at Kl Kr
      have fr : Fr [(1, 2)] [] hc (rx_pf hc 1 2 (zI q + 1)) := Fr.rf.pf (by decide)
      refine ih (q + 1) _ (d + 1) _ (by omega) (by omega) (by omega) ?_ (T.to (zI_add q 1)) (fun e h' he T' f' => Kl e h' he T' (fr.tr f')) (fun p' u h' he T' f' => Kr p' u h' he T' (fr.tr f'))
      rw [Nat.pow_succ]; omega
    · exact stop q v d hc hd1 (by omega) hq T h (Kr q v hc (by unfold nmF; rw [if_neg h]) T Fr.rf) (fun z => absurd z h) (fun z => absurd z h)
theorem num_c {G : rx_Gh} {F : Int32 → rx_Hp → Prop} (ok : TOk n tb) {D : Nat} (hD : D ≤ 4) (hD1 : 1 ≤ D) {q : Nat} {hc : rx_Hp} (hq : q ≤ n) (T : AtC n tb q hc) (Kl : ∀ e h', numA n tb D q = .inl e → AtC n tb e h' → Fr [(1, 2)] [] hc h' → F (-1) h') (Kr : ∀ p' u h', numA n tb D q = .inr (p', u) → AtC n tb p' h' → Fr [(1, 2)] [] hc h' → F (zI u) h') : Ev wC G 1 q_Ta_number [.ref 1, .int (zI D)] hc (rI F) := by
  have o1 := ok.1
  refine w_Ta_number _ ?_
  refine w_Ta_number_4 _ _ _ ?_
  rw [T.1.1, T.2, if_pos rfl]
  have nodig : ¬ dgB n tb q = true → F (-1) hc := fun h => Kl q hc (by unfold numA; rw [if_neg h]) T Fr.rf
  refine ⟨fun c => nodig (fun h => ?_), fun c => ?_⟩
  · have := (zI_le (a := (n : Int)) (b := (q : Int)) (by omega) (by omega)).mp c
    have := (dg_ch h).1; omega
  · have c : q < n := by
      have := mtn (zI_le (a := (n : Int)) (b := (q : Int)) (by omega) (by omega)) c; omega
    have b := ok.2 q c
    rw [zI_cN (by omega), T.1.2 q c]
    refine ⟨vp_N (by omega) (by omega), fun c1 => nodig (fun h => ?_), fun c1 => ⟨fun c2 => nodig (fun h => ?_), fun c2 => ⟨fun c3 => ?_, fun _ => ?_⟩⟩⟩
    · rw [show (48 : Int32) = zI 48 from by decide, zI_lt (by omega) (by omega)] at c1
      have := (dg_ch h).2.2.1; omega
    · rw [show (57 : Int32) = zI 57 from by decide, zI_lt (by omega) (by omega)] at c2
      have := (dg_ch h).2.2.2.1; omega
    · rw [show (0 : Int32) = zI 0 from by decide, zI_eq (by omega) (by omega)] at c3; omega
    · rw [show (48 : Int32) = zI 48 from by decide, zI_lt (by omega) (by omega)] at c1
      rw [show (57 : Int32) = zI 57 from by decide, zI_lt (by omega) (by omega)] at c2
      have h : dgB n tb q = true := by unfold dgB; simp; omega
      obtain ⟨f, rfl⟩ : ∃ f, D = f + 1 := ⟨D - 1, by omega⟩
      have en : numA n tb (f + 1) q = nmF n tb f (q + 1) (10 * 0 + (tb q - 48)) := by
        unfold numA; rw [if_pos h]
        conv => lhs; unfold nmF
        rw [if_pos h]
      rw [en] at Kl Kr
      have fr : Fr [(1, 2)] [] hc (rx_pf hc 1 2 (zI q + 1)) := Fr.rf.pf (by decide)
      rw [show 10 * 0 + zI (tb q : Nat) - 48 = zI ((10 * 0 + (tb q - 48) : Nat) : Int) from by
        rw [show (10 : Int32) * 0 = zI 0 from by decide, show (48 : Int32) = zI 48 from by decide, zI_add, zI_sub]; congr 1; omega]
      exact nm_c ok hD f (q + 1) _ 1 _ (by omega) (by omega) (by omega) (by omega) (T.to (zI_add q 1)) (fun e h' he T' f' => Kl e h' he T' (fr.tr f')) (fun p' u h' he T' f' => Kr p' u h' he T' (fr.tr f'))
end TPF

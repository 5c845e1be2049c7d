/-! pane, both sides -/
def stP (n d ln ld tn td : Nat) : Nat × Nat × Nat × Nat := (if ld = 0 then n else if ln * d ≤ n * ld then ln else n, if ld = 0 then d else if ln * d ≤ n * ld then ld else d, if td = 0 then n else if n * td ≤ tn * d then tn else n, if td = 0 then d else if n * td ≤ tn * d then td else d)
def pSt (f : Nat → Nat × Nat) (e b : Nat) (s : Nat × Nat × Nat × Nat) : Nat × Nat × Nat × Nat := if b = e ∨ (f b).2 = 0 then s else stP (f b).1 (f b).2 s.1 s.2.1 s.2.2.1 s.2.2.2
def pF (f : Nat → Nat × Nat) (e : Nat) : Nat → Nat × Nat × Nat × Nat
  | 0 => (0, 0, 0, 0)
  | b + 1 => pSt f e b (pF f e b)
def fBd (f : Nat → Nat × Nat) (nb : Nat) : Prop := ∀ b, b < nb → (f b).1 ≤ 800 ∧ (f b).2 ≤ 40
theorem pF_bd {f : Nat → Nat × Nat} {e nb : Nat} (h : fBd f nb) : ∀ b, b ≤ nb → (pF f e b).1 ≤ 800 ∧ (pF f e b).2.1 ≤ 40 ∧ (pF f e b).2.2.1 ≤ 800 ∧ (pF f e b).2.2.2 ≤ 40
  | 0, _ => by simp [pF]
  | b + 1, hb => by
    have ih := pF_bd (e := e) h b (by omega)
    have hf := h b (by omega)
    rw [pF, pSt]
    split
    · exact ih
    · simp only [stP]
      refine ⟨?_, ?_, ?_, ?_⟩ <;> (repeat' split) <;> omega
/-- the raw state and the plain one -/
def pE (s u : Nat × Nat × Nat × Nat) : Prop := ∃ c k : Nat, 0 < c ∧ 0 < k ∧ s.1 = c * u.1 ∧ s.2.1 = c * u.2.1 ∧ s.2.2.1 = k * u.2.2.1 ∧ s.2.2.2 = k * u.2.2.2
theorem cmp_sc {a b c d p q : Nat} (hp : 0 < p) (hq : 0 < q) : (p * a) * (q * b) ≤ (q * c) * (p * d) ↔ a * b ≤ c * d := by
  rw [show (p * a) * (q * b) = (p * q) * (a * b) by rw [Nat.mul_mul_mul_comm], show (q * c) * (p * d) = (p * q) * (c * d) by rw [Nat.mul_mul_mul_comm, Nat.mul_comm q p]]
  exact Nat.mul_le_mul_left_iff (Nat.mul_pos hp hq)
theorem pE_st {f f' : Nat → Nat × Nat} {e b : Nat} (hf : ∃ c : Nat, 0 < c ∧ (f b).1 = c * (f' b).1 ∧ (f b).2 = c * (f' b).2) {s u : Nat × Nat × Nat × Nat} (h : pE s u) : pE (pSt f e b s) (pSt f' e b u) := by
  obtain ⟨c, k, hc, hk, e1, e2, e3, e4⟩ := h
  obtain ⟨p, hp, f1, f2⟩ := hf
  have z : (f b).2 = 0 ↔ (f' b).2 = 0 := by
    rw [f2]
    constructor
    · intro q
      rcases Nat.mul_eq_zero.mp q with q | q
      · omega
      · exact q
    · intro q; rw [q, Nat.mul_zero]
  have z2 : s.2.1 = 0 ↔ u.2.1 = 0 := by
    rw [e2]
    constructor
    · intro q
      rcases Nat.mul_eq_zero.mp q with q | q
      · omega
      · exact q
    · intro q; rw [q, Nat.mul_zero]
  have z3 : s.2.2.2 = 0 ↔ u.2.2.2 = 0 := by
    rw [e4]
    constructor
    · intro q
      rcases Nat.mul_eq_zero.mp q with q | q
      · omega
      · exact q
    · intro q; rw [q, Nat.mul_zero]
  unfold pSt
  by_cases h0 : b = e ∨ (f b).2 = 0
  · rw [if_pos h0, if_pos (by rcases h0 with q | q; exact Or.inl q; exact Or.inr (z.mp q))]
    exact ⟨c, k, hc, hk, e1, e2, e3, e4⟩
  · rw [if_neg h0, if_neg (by rintro (q | q); exact h0 (Or.inl q); exact h0 (Or.inr (z.mpr q)))]
    have L : s.1 * (f b).2 ≤ (f b).1 * s.2.1 ↔ u.1 * (f' b).2 ≤ (f' b).1 * u.2.1 := by rw [e1, e2, f1, f2]; exact cmp_sc hc hp
    have T : (f b).1 * s.2.2.2 ≤ s.2.2.1 * (f b).2 ↔ (f' b).1 * u.2.2.2 ≤ u.2.2.1 * (f' b).2 := by rw [e3, e4, f1, f2]; exact cmp_sc hp hk
    have low : ∃ c' : Nat, 0 < c' ∧ (stP (f b).1 (f b).2 s.1 s.2.1 s.2.2.1 s.2.2.2).1 = c' * (stP (f' b).1 (f' b).2 u.1 u.2.1 u.2.2.1 u.2.2.2).1 ∧ (stP (f b).1 (f b).2 s.1 s.2.1 s.2.2.1 s.2.2.2).2.1 = c' * (stP (f' b).1 (f' b).2 u.1 u.2.1 u.2.2.1 u.2.2.2).2.1 := by
      simp only [stP, z2]
      by_cases q1 : u.2.1 = 0
      · simp only [if_pos q1]; exact ⟨p, hp, f1, f2⟩
      · simp only [if_neg q1]
        by_cases q2 : u.1 * (f' b).2 ≤ (f' b).1 * u.2.1
        · simp only [if_pos q2, if_pos (L.mpr q2)]; exact ⟨c, hc, e1, e2⟩
        · simp only [if_neg q2, if_neg (fun q => q2 (L.mp q))]; exact ⟨p, hp, f1, f2⟩
    have top : ∃ c' : Nat, 0 < c' ∧ (stP (f b).1 (f b).2 s.1 s.2.1 s.2.2.1 s.2.2.2).2.2.1 = c' * (stP (f' b).1 (f' b).2 u.1 u.2.1 u.2.2.1 u.2.2.2).2.2.1 ∧ (stP (f b).1 (f b).2 s.1 s.2.1 s.2.2.1 s.2.2.2).2.2.2 = c' * (stP (f' b).1 (f' b).2 u.1 u.2.1 u.2.2.1 u.2.2.2).2.2.2 := by
      simp only [stP, z3]
      by_cases q1 : u.2.2.2 = 0
      · simp only [if_pos q1]; exact ⟨p, hp, f1, f2⟩
      · simp only [if_neg q1]
        by_cases q2 : (f' b).1 * u.2.2.2 ≤ u.2.2.1 * (f' b).2
        · simp only [if_pos q2, if_pos (T.mpr q2)]; exact ⟨k, hk, e3, e4⟩
        · simp only [if_neg q2, if_neg (fun q => q2 (T.mp q))]; exact ⟨p, hp, f1, f2⟩
    obtain ⟨c1, h1, h2, h3⟩ := low
    obtain ⟨k1, h4, h5, h6⟩ := top
    exact ⟨c1, k1, h1, h4, h2, h3, h5, h6⟩
theorem pE_F {f f' : Nat → Nat × Nat} {e nb : Nat} (hf : ∀ b, b < nb → ∃ c : Nat, 0 < c ∧ (f b).1 = c * (f' b).1 ∧ (f b).2 = c * (f' b).2) : ∀ b, b ≤ nb → pE (pF f e b) (pF f' e b)
  | 0, _ => ⟨1, 1, by omega, by omega, rfl, rfl, rfl, rfl⟩
  | b + 1, hb => pE_st (hf b (by omega)) (pE_F hf b (by omega))
/-- the greatest is no less than the least; both are there or none -/
def pG (s : Nat × Nat × Nat × Nat) : Prop := (s.2.1 = 0 ↔ s.2.2.2 = 0) ∧ s.1 * s.2.2.2 ≤ s.2.2.1 * s.2.1
theorem pG_F {f : Nat → Nat × Nat} {e : Nat} : ∀ b, pG (pF f e b)
  | 0 => ⟨Iff.rfl, by simp [pF]⟩
  | b + 1 => by
    obtain ⟨h1, h2⟩ := pG_F (f := f) (e := e) b
    rw [pF, pSt]
    split
    · exact ⟨h1, h2⟩
    · rename_i h0
      have hd : ¬ (f b).2 = 0 := fun q => h0 (Or.inr q)
      generalize pF f e b = s at *
      obtain ⟨ln, ld, tn, td⟩ := s
      simp only at h1 h2
      unfold pG stP
      simp only
      by_cases q1 : ld = 0
      · have q2 := h1.mp q1
        simp only [if_pos q1, if_pos q2]
        exact ⟨trivial, Nat.le_refl _⟩
      · have q2 : ¬ td = 0 := fun q => q1 (h1.mpr q)
        simp only [if_neg q1, if_neg q2]
        by_cases q3 : ln * (f b).2 ≤ (f b).1 * ld
        · by_cases q4 : (f b).1 * td ≤ tn * (f b).2
          · simp only [if_pos q3, if_pos q4]; exact ⟨h1, h2⟩
          · simp only [if_pos q3, if_neg q4]
            exact ⟨⟨fun q => absurd q q1, fun q => absurd q hd⟩, q3⟩
        · by_cases q4 : (f b).1 * td ≤ tn * (f b).2
          · simp only [if_neg q3, if_pos q4]
            exact ⟨⟨fun q => absurd q hd, fun q => absurd q q2⟩, q4⟩
          · simp only [if_neg q3, if_neg q4]
            exact ⟨trivial, Nat.le_refl _⟩
theorem red_sc {c n d : Nat} (hc : 0 < c) : (c * n) / Nat.gcd (c * n) (c * d) = n / Nat.gcd n d := by
  rw [Nat.gcd_mul_left, Nat.mul_div_mul_left _ _ hc]
theorem red_sc2 {c n d : Nat} (hc : 0 < c) : (c * d) / Nat.gcd (c * n) (c * d) = d / Nat.gcd n d := by
  rw [Nat.gcd_mul_left, Nat.mul_div_mul_left _ _ hc]
def pV (s : Nat × Nat × Nat × Nat) (part : Int32) : Int32 := if s.2.1 = 0 then -1 else if part = 0 then zI ((s.2.2.1 * s.2.1 - s.1 * s.2.2.2) / Nat.gcd (s.2.2.1 * s.2.1 - s.1 * s.2.2.2) (s.2.2.2 * s.2.1) : Nat) else zI ((s.2.2.2 * s.2.1) / Nat.gcd (s.2.2.1 * s.2.1 - s.1 * s.2.2.2) (s.2.2.2 * s.2.1) : Nat)
theorem pV_E {s u : Nat × Nat × Nat × Nat} (h : pE s u) (part : Int32) : pV s part = pV u part := by
  obtain ⟨c, k, hc, hk, e1, e2, e3, e4⟩ := h
  have z2 : s.2.1 = 0 ↔ u.2.1 = 0 := by
    rw [e2]
    constructor
    · intro q
      rcases Nat.mul_eq_zero.mp q with q | q
      · omega
      · exact q
    · intro q; rw [q, Nat.mul_zero]
  have eN : s.2.2.1 * s.2.1 - s.1 * s.2.2.2 = (k * c) * (u.2.2.1 * u.2.1 - u.1 * u.2.2.2) := by
    rw [e1, e2, e3, e4, Nat.mul_sub, Nat.mul_mul_mul_comm, Nat.mul_mul_mul_comm c u.1 k u.2.2.2, Nat.mul_comm c k]
  have eD : s.2.2.2 * s.2.1 = (k * c) * (u.2.2.2 * u.2.1) := by rw [e2, e4, Nat.mul_mul_mul_comm]
  have hkc : 0 < k * c := Nat.mul_pos hk hc
  unfold pV
  rw [eN, eD, red_sc hkc, red_sc2 hkc]
  by_cases q : u.2.1 = 0
  · rw [if_pos q, if_pos (z2.mpr q)]
  · rw [if_neg q, if_neg (fun y => q (z2.mp y))]

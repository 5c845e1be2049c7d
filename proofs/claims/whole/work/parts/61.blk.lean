/-! the way from the eye: the class's test and the model's -/
def btI (it en : Int) : Bool := if 0 < en then decide (0 < it) && decide (it < en) else decide (it < 0) && decide (en < it)
def bkX (p q x : Int) : Bool := if p = 0 then decide (x = 0) else btI x p && decide ((x * q).tmod p = 0)
def swP (p q x y : Int) : Bool := if p = 0 then btI y q else decide (x * q = y * p)
theorem sgI {p N S x : Int} (hp : 0 < p) (hN : 0 < N) (h : p * S = x * N) : 0 < S ↔ 0 < x := by
  constructor
  · intro hS
    have h1 := Int.mul_pos hp hS
    rcases Int.lt_or_le 0 x with h2 | h2
    · exact h2
    · have h3 := Int.mul_le_mul_of_nonneg_right h2 (Int.le_of_lt hN)
      rw [Int.zero_mul] at h3
      omega
  · intro hx
    have h1 := Int.mul_pos hx hN
    rcases Int.lt_or_le 0 S with h2 | h2
    · exact h2
    · have h3 := Int.mul_le_mul_of_nonneg_left h2 (Int.le_of_lt hp)
      rw [Int.mul_zero] at h3
      omega
theorem sqI (q : Int) : 0 ≤ q * q := by
  rcases Int.le_total 0 q with h | h
  · exact Int.mul_nonneg h h
  · exact Int.mul_nonneg_of_nonpos_of_nonpos h h
theorem sqP {p : Int} (h : p ≠ 0) : 0 < p * p := by
  rcases Int.lt_or_gt_of_ne h with h | h
  · exact Int.mul_pos_of_neg_of_neg h h
  · exact Int.mul_pos h h
theorem keyI {p q x y : Int} (h0 : p ≠ 0) (h : p * y = q * x) : (0 < p * x + q * y ∧ p * x + q * y < p * p + q * q) ↔ btI x p = true := by
  have hN : 0 < p * p + q * q := by have := sqP h0; have := sqI q; omega
  have hS : p * (p * x + q * y) = x * (p * p + q * q) := by
    rw [Int.mul_add, Int.mul_left_comm p q y, h, Int.mul_add, Int.mul_left_comm x p p, Int.mul_comm x p, Int.mul_left_comm x q q, Int.mul_comm x q]
  generalize p * x + q * y = S at *
  generalize p * p + q * q = N at *
  have hT : p * (N - S) = (p - x) * N := by rw [Int.mul_sub, Int.sub_mul, hS]
  unfold btI
  by_cases hp : 0 < p
  · have a1 := sgI hp hN hS
    have a2 := sgI hp hN hT
    rw [if_pos hp]
    simp only [Bool.and_eq_true, decide_eq_true_eq]
    omega
  · have hn : 0 < -p := by omega
    have a1 := sgI (S := S) (x := -x) hn hN (by rw [Int.neg_mul, Int.neg_mul, hS])
    have a2 := sgI (S := N - S) (x := -(p - x)) hn hN (by rw [Int.neg_mul, Int.neg_mul, hT])
    rw [if_neg hp]
    simp only [Bool.and_eq_true, decide_eq_true_eq]
    omega
theorem on_bk (p q x y : Int) : onI p q x y = (bkX p q x && swP p q x y) := by
  by_cases h0 : p = 0
  · subst h0
    unfold onI bkX swP
    rw [if_pos rfl, if_pos rfl]
    simp only [Int.zero_mul, Int.zero_add]
    by_cases hq : q = 0
    · subst hq
      simp [btI]
      omega
    · by_cases hx : x = 0
      · subst hx
        have k := keyI (p := q) (q := 0) (x := y) (y := 0) hq (by simp)
        rw [Bool.eq_iff_iff]
        simp only [Bool.and_eq_true, decide_eq_true_eq, Int.mul_zero, true_and]
        rw [← k]
        simp
      · have : ¬ (0 = q * x) := fun z => by
          rcases Int.mul_eq_zero.mp z.symm with z | z
          · exact hq z
          · exact hx z
        simp [this, hx]
  · unfold bkX swP
    rw [if_neg h0, if_neg h0]
    rw [Bool.eq_iff_iff]
    unfold onI
    simp only [Bool.and_eq_true, decide_eq_true_eq]
    constructor
    · rintro ⟨h1, h2⟩
      refine ⟨⟨(keyI h0 h1).mp h2, ?_⟩, ?_⟩
      · rw [Int.mul_comm x q, ← h1]; exact Int.mul_tmod_right p y
      · rw [Int.mul_comm x q, ← h1, Int.mul_comm]
    · rintro ⟨⟨h1, _⟩, h2⟩
      have h3 : p * y = q * x := by rw [Int.mul_comm q x, h2, Int.mul_comm]
      exact ⟨h3, (keyI h0 h3).mpr h1⟩
theorem on_sw (p q x y : Int) : onI p q x y = onI q p y x := by
  unfold onI
  rw [Int.add_comm (p * x), Int.add_comm (p * p), Bool.eq_iff_iff]
  simp only [Bool.and_eq_true, decide_eq_true_eq]
  constructor
  · rintro ⟨a, b⟩; exact ⟨a.symm, b⟩
  · rintro ⟨a, b⟩; exact ⟨a.symm, b⟩
theorem on_rg {p q x y : Int} (h : onI p q x y = true) : (0 ≤ x ∨ p ≤ x) ∧ (x ≤ 0 ∨ x ≤ p) := by
  rw [on_bk, Bool.and_eq_true] at h
  have h1 := h.1
  unfold bkX btI at h1
  by_cases h0 : p = 0
  · rw [if_pos h0] at h1
    simp at h1
    omega
  · rw [if_neg h0] at h1
    by_cases hp : 0 < p
    · rw [if_pos hp] at h1; simp at h1; omega
    · rw [if_neg hp] at h1; simp at h1; omega

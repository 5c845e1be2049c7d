/-! two glasses at an angle: the class's formulas and the model's marks, by trying all angles and places -/
def hgT (a p : Nat) : Nat := (180 - p + a - 1) / a
def hgE (a p : Nat) : Int := if hgT a p % 2 = 1 then -(p : Int) - ((hgT a p : Int) - 1) * (a : Int) else (p : Int) + (hgT a p : Int) * (a : Int)
def hgM (a p : Nat) : Bool := decide ((hgE a p - ((a : Int) - hgE a (a - p))) % 360 = 0)
def hgU (a p : Nat) : Nat := hgT a p + hgT a (a - p) - (if hgM a p = true then 1 else 0)
def hgV (a p : Nat) : Nat := (hgT a p + 1) / 2 + (hgT a (a - p) + 1) / 2 - (if hgM a p = true then hgT a (a - p) % 2 else 0)
def hgAh (a : Nat) (at_ : Nat) (first : Bool) : Nat := (bif first then at_ else at_ + 180 - a) % 360
def hgNx (a : Nat) (at_ : Nat) (first : Bool) : Nat := (bif first then 360 - at_ else 2 * a + 360 - at_) % 360
def hfRow (a : Nat) : Nat → Nat → Bool → Nat → Nat → Nat → Nat → Option (Nat × Nat × Nat)
  | 0, _, _, _, _, _, _ => none
  | f + 1, at_, first, n, S, c, v => bif Nat.ble 1 (hgAh a at_ first) && Nat.ble (hgAh a at_ first) 179 then (bif Nat.testBit S (hgNx a at_ first) then hfRow a f (hgNx a at_ first) (!first) (n + 1) S c v else hfRow a f (hgNx a at_ first) (!first) (n + 1) (S ||| (1 <<< hgNx a at_ first)) (c + 1) (v + (n + 1) % 2)) else some (S, c, v)
def hgOk (a p : Nat) : Bool := match hfRow a 100 p true 0 0 0 0 with
  | none => false
  | some (S1, c1, v1) => match hfRow a 100 p false 0 S1 c1 v1 with
    | none => false
    | some (S, c, v) => Nat.beq c (hgU a p) && Nat.beq v (hgV a p) && !(Nat.testBit S p) && Nat.beq (hgU a p) (hgU a (a - p)) && Nat.ble (360 / a) (hgU a p + 2) && Nat.ble (hgU a p) (360 / a + 1)
def hgAll (lo n : Nat) : Bool := (List.range n).all (fun a => (List.range (lo + a)).all (fun p => (Nat.beq p 0) || hgOk (lo + a) p))
theorem hgAll_0 : hgAll 0 40 = true := by decide +kernel
theorem hgAll_1 : hgAll 40 20 = true := by decide +kernel
theorem hgAll_2 : hgAll 60 20 = true := by decide +kernel
theorem hgAll_3 : hgAll 80 15 = true := by decide +kernel
theorem hgAll_4 : hgAll 95 15 = true := by decide +kernel
theorem hgAll_5 : hgAll 110 12 = true := by decide +kernel
theorem hgAll_6 : hgAll 122 12 = true := by decide +kernel
theorem hgAll_7 : hgAll 134 11 = true := by decide +kernel
theorem hgAll_8 : hgAll 145 10 = true := by decide +kernel
theorem hgAll_9 : hgAll 155 10 = true := by decide +kernel
theorem hgAll_10 : hgAll 165 8 = true := by decide +kernel
theorem hgAll_11 : hgAll 173 8 = true := by decide +kernel
theorem hg_chunk {lo n a p : Nat} (h : hgAll lo n = true) (h0 : lo ≤ a) (hn : a < lo + n) (h1 : 1 ≤ p) (h2 : p < a) : hgOk a p = true := by
  unfold hgAll at h
  have q := List.all_eq_true.mp h (a - lo) (List.mem_range.mpr (by omega))
  rw [show lo + (a - lo) = a by omega] at q
  have r := List.all_eq_true.mp q p (List.mem_range.mpr h2)
  rw [Bool.or_eq_true] at r
  rcases r with r | r
  · have := Nat.eq_of_beq_eq_true r; omega
  · exact r
theorem hg_all {a p : Nat} (h1 : 1 ≤ p) (h2 : p < a) (h3 : a ≤ 180) : hgOk a p = true := by
  by_cases q0 : a < 40
  · exact hg_chunk hgAll_0 (by omega) (by omega) h1 h2
  by_cases q1 : a < 60
  · exact hg_chunk hgAll_1 (by omega) (by omega) h1 h2
  by_cases q2 : a < 80
  · exact hg_chunk hgAll_2 (by omega) (by omega) h1 h2
  by_cases q3 : a < 95
  · exact hg_chunk hgAll_3 (by omega) (by omega) h1 h2
  by_cases q4 : a < 110
  · exact hg_chunk hgAll_4 (by omega) (by omega) h1 h2
  by_cases q5 : a < 122
  · exact hg_chunk hgAll_5 (by omega) (by omega) h1 h2
  by_cases q6 : a < 134
  · exact hg_chunk hgAll_6 (by omega) (by omega) h1 h2
  by_cases q7 : a < 145
  · exact hg_chunk hgAll_7 (by omega) (by omega) h1 h2
  by_cases q8 : a < 155
  · exact hg_chunk hgAll_8 (by omega) (by omega) h1 h2
  by_cases q9 : a < 165
  · exact hg_chunk hgAll_9 (by omega) (by omega) h1 h2
  by_cases q10 : a < 173
  · exact hg_chunk hgAll_10 (by omega) (by omega) h1 h2
  exact hg_chunk hgAll_11 (by omega) (by omega) h1 h2
theorem hg_use {a p : Nat} (h1 : 1 ≤ p) (h2 : p < a) (h3 : a ≤ 180) : ∃ S1 c1 v1 S c v, hfRow a 100 p true 0 0 0 0 = some (S1, c1, v1) ∧ hfRow a 100 p false 0 S1 c1 v1 = some (S, c, v) ∧ c = hgU a p ∧ v = hgV a p ∧ Nat.testBit S p = false ∧ hgU a p = hgU a (a - p) ∧ 360 / a ≤ hgU a p + 2 ∧ hgU a p ≤ 360 / a + 1 := by
  have h := hg_all h1 h2 h3
  unfold hgOk at h
  cases e1 : hfRow a 100 p true 0 0 0 0 with
  | none => rw [e1] at h; cases h
  | some r1 =>
    obtain ⟨S1, c1, v1⟩ := r1
    rw [e1] at h
    simp only at h
    cases e2 : hfRow a 100 p false 0 S1 c1 v1 with
    | none => rw [e2] at h; cases h
    | some r2 =>
      obtain ⟨S, c, v⟩ := r2
      rw [e2] at h
      simp only [Bool.and_eq_true, Nat.ble_eq, Bool.not_eq_true', Nat.beq_eq] at h
      obtain ⟨⟨⟨⟨⟨q1, q2⟩, q3⟩, q4⟩, q5⟩, q6⟩ := h
      exact ⟨S1, c1, v1, S, c, v, rfl, e2, q1, q2, q3, q4, q5, q6⟩

/-! the hall as numbers; where images stand; which are there -/
def spI (i w x : Int) : Int := i * w + (if i % 2 = 0 then x else w - x)
def loC (p : Nat) : Int := if p = 3 then -10 else if p = 1 then -1 else 0
def hiC (p : Nat) : Int := if p = 3 then 10 else if p = 2 then 1 else 0
def thI (g : Nat) (i j : Int) : Bool := decide (loC (g % 4) ≤ i) && decide (i ≤ hiC (g % 4)) && (decide (loC (g / 4) ≤ j) && decide (j ≤ hiC (g / 4)))
def brI (t : Nat) : Nat → Int
  | 0 => 1000000
  | n + 1 => brI t n * (100 - t) / 100
theorem brI_bd (t : Nat) (ht : t ≤ 99) : ∀ n, 0 ≤ brI t n ∧ brI t n ≤ 1000000
  | 0 => by simp [brI]
  | n + 1 => by
    obtain ⟨h1, h2⟩ := brI_bd t ht n
    have h3 : 0 ≤ brI t n * (100 - t) := Int.mul_nonneg h1 (by omega)
    have h4 : brI t n * (100 - t) ≤ brI t n * 100 := Int.mul_le_mul_of_nonneg_left (by omega) h1
    simp only [brI]
    constructor
    · exact Int.ediv_nonneg h3 (by omega)
    · have : brI t n * (100 - ↑t) / 100 ≤ brI t n * 100 / 100 := Int.ediv_le_ediv (by omega) h4
      omega
theorem loC_bd (p : Nat) : -10 ≤ loC p ∧ loC p ≤ 0 := by unfold loC; split <;> (try split) <;> omega
theorem hiC_bd (p : Nat) : 0 ≤ hiC p ∧ hiC p ≤ 10 := by unfold hiC; split <;> (try split) <;> omega
theorem fin21 {P : Int → Prop} (h : ∀ k : Fin 21, P ((k : Int) - 10)) {i : Int} (h1 : -10 ≤ i) (h2 : i ≤ 10) : P i := by
  have := h ⟨(i + 10).toNat, by omega⟩
  simp only at this
  rwa [show (((i + 10).toNat : Nat) : Int) - 10 = i by omega] at this
theorem zI_odd {i : Int} (h1 : -10 ≤ i) (h2 : i ≤ 10) : (zI i &&& 1 = 0) ↔ i % 2 = 0 := fin21 (P := fun i => (zI i &&& 1 = 0) ↔ i % 2 = 0) (by decide +kernel) h1 h2
theorem zI_odd2 {i : Int} (h1 : -10 ≤ i) (h2 : i ≤ 10) : (zI i - zI i / 2 * 2 = 0) ↔ i % 2 = 0 := fin21 (P := fun i => (zI i - zI i / 2 * 2 = 0) ↔ i % 2 = 0) (by decide +kernel) h1 h2
theorem spot_c {i w x : Int} (h1 : -10 ≤ i) (h2 : i ≤ 10) : f_Ha_spot (zI i) (zI w) (zI x) = zI (spI i w x) := by
  unfold f_Ha_spot spI
  by_cases h : i % 2 = 0
  · rw [if_pos ((zI_odd h1 h2).mpr h), if_pos h, zI_mul, zI_add]
  · rw [if_neg (fun q => h ((zI_odd h1 h2).mp q)), if_neg h, zI_mul, zI_sub, zI_add]
theorem spot_m {i w x : Int} (h1 : -10 ≤ i) (h2 : i ≤ 10) : f_M_thrownTo (zI i) (zI w) (zI x) = zI (spI i w x) := by
  unfold f_M_thrownTo spI
  by_cases h : i % 2 = 0
  · rw [if_pos ((zI_odd2 h1 h2).mpr h), if_pos h, zI_mul, zI_add]
  · rw [if_neg (fun q => h ((zI_odd2 h1 h2).mp q)), if_neg h, zI_mul, zI_sub, zI_add]
theorem lowI_c : ∀ g : Fin 16, f_Ha_lowI (zI (g : Nat)) = zI (loC ((g : Nat) % 4)) := by decide +kernel
theorem highI_c : ∀ g : Fin 16, f_Ha_highI (zI (g : Nat)) = zI (hiC ((g : Nat) % 4)) := by decide +kernel
theorem lowJ_c : ∀ g : Fin 16, f_Ha_lowJ (zI (g : Nat)) = zI (loC ((g : Nat) / 4)) := by decide +kernel
theorem highJ_c : ∀ g : Fin 16, f_Ha_highJ (zI (g : Nat)) = zI (hiC ((g : Nat) / 4)) := by decide +kernel
def b2 (b : Bool) : Int32 := if b = true then 1 else 0
theorem b2_01 (b : Bool) : b2 b = 0 ∨ b2 b = 1 := by cases b <;> simp [b2]
theorem b2_0 (b : Bool) : b2 b = 0 ↔ b = false := by cases b <;> simp [b2]
theorem there_c {g : Nat} (hg : g < 16) {i j : Int} (h1 : -10 ≤ i) (h2 : i ≤ 10) (h3 : -10 ≤ j) (h4 : j ≤ 10) : f_Ha_isThere (zI g) (zI i) (zI j) = b2 (thI g i j) := by
  have e1 := lowI_c ⟨g, hg⟩
  have e2 := highI_c ⟨g, hg⟩
  have e3 := lowJ_c ⟨g, hg⟩
  have e4 := highJ_c ⟨g, hg⟩
  simp only at e1 e2 e3 e4
  have b1 := loC_bd (g % 4)
  have b2' := hiC_bd (g % 4)
  have b3 := loC_bd (g / 4)
  have b4 := hiC_bd (g / 4)
  unfold f_Ha_isThere
  rw [e1, e2, e3, e4]
  simp only [zI_lt (a := i) (b := loC (g % 4)) (by omega) (by omega), zI_lt (a := hiC (g % 4)) (b := i) (by omega) (by omega), zI_lt (a := j) (b := loC (g / 4)) (by omega) (by omega), zI_lt (a := hiC (g / 4)) (b := j) (by omega) (by omega)]
  unfold b2 thI
  by_cases q1 : i < loC (g % 4)
  · simp [q1]; omega
  · by_cases q2 : hiC (g % 4) < i
    · simp [q1, q2]; omega
    · by_cases q3 : j < loC (g / 4)
      · simp [q1, q2, q3]; omega
      · by_cases q4 : hiC (g / 4) < j
        · simp [q1, q2, q3, q4]
          try omega
        · simp [q1, q2, q3, q4]
          try omega
/-- canBe as a function of the walls -/
def cbI (g i lo up : Int32) : Int32 := if i = 0 then 1 else if f_M_has g lo = 0 then (if i = 1 then (if f_M_has g up = 0 then 0 else 1) else 0) else (if f_M_has g up = 0 then (if i = -1 then 1 else 0) else 1)
theorem cb_x : ∀ (g : Fin 16) (k : Fin 21), cbI (zI (g : Nat)) (zI ((k : Int) - 10)) 0 1 = b2 (decide (loC ((g : Nat) % 4) ≤ (k : Int) - 10) && decide ((k : Int) - 10 ≤ hiC ((g : Nat) % 4))) := by decide +kernel
theorem cb_y : ∀ (g : Fin 16) (k : Fin 21), cbI (zI (g : Nat)) (zI ((k : Int) - 10)) 2 3 = b2 (decide (loC ((g : Nat) / 4) ≤ (k : Int) - 10) && decide ((k : Int) - 10 ≤ hiC ((g : Nat) / 4))) := by decide +kernel
theorem canBe_m (a b c : Int32) (hp : rx_Hp) : f_M_canBe a b c hp = cbI (hp.1 0 26) a b c := by
  unfold f_M_canBe cbI
  have hb1 := b_M_has (hp.1 0 26) b
  have hb2 := b_M_has (hp.1 0 26) c
  by_cases h0 : a = 0
  · simp [h0]
  · rcases hb1 with h1 | h1 <;> rcases hb2 with h2 | h2 <;> simp [h0, h1, h2] <;> (repeat' split) <;> simp_all
theorem there_m {g : Nat} (hg : g < 16) {i j : Int} (h1 : -10 ≤ i) (h2 : i ≤ 10) (h3 : -10 ≤ j) (h4 : j ≤ 10) {hp : rx_Hp} (hw : hp.1 0 26 = zI g) : f_M_isThere (zI i) (zI j) hp = b2 (thI g i j) := by
  have e1 : cbI (zI g) (zI i) 0 1 = b2 (decide (loC (g % 4) ≤ i) && decide (i ≤ hiC (g % 4))) := fin21 (P := fun i => cbI (zI g) (zI i) 0 1 = b2 (decide (loC (g % 4) ≤ i) && decide (i ≤ hiC (g % 4)))) (fun k => cb_x ⟨g, hg⟩ k) h1 h2
  have e2 : cbI (zI g) (zI j) 2 3 = b2 (decide (loC (g / 4) ≤ j) && decide (j ≤ hiC (g / 4))) := fin21 (P := fun j => cbI (zI g) (zI j) 2 3 = b2 (decide (loC (g / 4) ≤ j) && decide (j ≤ hiC (g / 4)))) (fun k => cb_y ⟨g, hg⟩ k) h3 h4
  unfold f_M_isThere
  rw [canBe_m, canBe_m, hw, e1, e2]
  unfold thI
  generalize (decide (loC (g % 4) ≤ i) && decide (i ≤ hiC (g % 4))) = u
  generalize (decide (loC (g / 4) ≤ j) && decide (j ≤ hiC (g / 4))) = v
  cases u <;> cases v <;> simp [b2]

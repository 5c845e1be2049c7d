/-! numbers: Int32 read as Int -/
def zI (z : Int) : Int32 := Int32.ofInt z
theorem zI_toInt {z : Int} (h1 : -2147483648 ≤ z) (h2 : z < 2147483648) : (zI z).toInt = z := Int32.toInt_ofInt_of_le h1 h2
theorem zI_self (x : Int32) : zI x.toInt = x := Int32.ofInt_toInt x
theorem toInt_lo (x : Int32) : -2147483648 ≤ x.toInt := by have := Int32.le_toInt x; simpa using this
theorem toInt_hi (x : Int32) : x.toInt < 2147483648 := by have := Int32.toInt_lt x; simpa using this
theorem zI_add (a b : Int) : zI a + zI b = zI (a + b) := (Int32.ofInt_add a b).symm
theorem zI_sub (a b : Int) : zI a - zI b = zI (a - b) := (Int32.ofInt_sub a b).symm
theorem zI_mul (a b : Int) : zI a * zI b = zI (a * b) := (Int32.ofInt_mul a b).symm
theorem zI_neg (a : Int) : -zI a = zI (-a) := (Int32.ofInt_neg a).symm
theorem zI_nI (n : Nat) : nI n = zI n := by
  unfold nI zI
  rw [Int32.ofInt_eq_ofNat]
theorem zI_le {a b : Int} (ha : -2147483648 ≤ a ∧ a < 2147483648) (hb : -2147483648 ≤ b ∧ b < 2147483648) : zI a ≤ zI b ↔ a ≤ b := by
  rw [Int32.le_iff_toInt_le, zI_toInt ha.1 ha.2, zI_toInt hb.1 hb.2]
theorem zI_lt {a b : Int} (ha : -2147483648 ≤ a ∧ a < 2147483648) (hb : -2147483648 ≤ b ∧ b < 2147483648) : zI a < zI b ↔ a < b := by
  rw [Int32.lt_iff_toInt_lt, zI_toInt ha.1 ha.2, zI_toInt hb.1 hb.2]
theorem zI_eq {a b : Int} (ha : -2147483648 ≤ a ∧ a < 2147483648) (hb : -2147483648 ≤ b ∧ b < 2147483648) : zI a = zI b ↔ a = b := by
  constructor
  · intro h
    have := congrArg Int32.toInt h
    rwa [zI_toInt ha.1 ha.2, zI_toInt hb.1 hb.2] at this
  · intro h; rw [h]
theorem zI_div {a b : Int} (ha : -2147483648 < a ∧ a < 2147483648) (hb : -2147483648 < b ∧ b < 2147483648) : zI a / zI b = zI (a.tdiv b) := by
  apply Int32.toInt_inj.mp
  rw [Int32.toInt_div, zI_toInt (by omega) ha.2, zI_toInt (by omega) hb.2]
  have h1 : (a.tdiv b).natAbs ≤ a.natAbs := by
    rw [Int.natAbs_tdiv]
    exact Nat.div_le_self _ _
  rw [zI_toInt (by omega) (by omega)]
  apply Int.bmod_eq_of_le <;> omega
theorem vp_in_zI {a : Int} {n : Nat} (h1 : 0 ≤ a) (h2 : a < n) (hn : n < 2147483648) : vp_in (zI a) n := by
  rw [vp_in_iff, zI_toInt (by omega) (by omega)]
  omega
theorem zI_clamp {a : Int} (h1 : 0 ≤ a) (h2 : a < 2147483648) : (zI a).toNatClampNeg = a.toNat := by
  rw [Int32.toNatClampNeg, zI_toInt (by omega) h2]
/-- a number by its int, with bounds at hand -/
theorem zI_of (x : Int32) : ∃ z : Int, x = zI z ∧ -2147483648 ≤ z ∧ z < 2147483648 := ⟨x.toInt, (zI_self x).symm, toInt_lo x, toInt_hi x⟩
/-! going up: any, count, fold -/
def anyUp (p : Int → Bool) (a : Int) : Nat → Bool
  | 0 => false
  | n + 1 => p a || anyUp p (a + 1) n
def cntUp (p : Int → Bool) (a : Int) : Nat → Nat
  | 0 => 0
  | n + 1 => (if p a = true then 1 else 0) + cntUp p (a + 1) n
def sumUp (f : Int → Nat) (a : Int) : Nat → Nat
  | 0 => 0
  | n + 1 => f a + sumUp f (a + 1) n
def foldUp {σ : Type} (f : Int → σ → σ) (a : Int) : Nat → σ → σ
  | 0, s => s
  | n + 1, s => foldUp f (a + 1) n (f a s)
theorem anyUp_iff (p : Int → Bool) : ∀ (n : Nat) (a : Int), anyUp p a n = true ↔ ∃ k : Int, a ≤ k ∧ k < a + n ∧ p k = true
  | 0, a => by
    simp only [anyUp]
    constructor
    · intro h; cases h
    · rintro ⟨k, h1, h2, -⟩; omega
  | n + 1, a => by
    rw [anyUp, Bool.or_eq_true, anyUp_iff p n (a + 1)]
    constructor
    · rintro (h | ⟨k, h1, h2, h3⟩)
      · exact ⟨a, by omega, by omega, h⟩
      · exact ⟨k, by omega, by omega, h3⟩
    · rintro ⟨k, h1, h2, h3⟩
      by_cases hk : k = a
      · subst hk; exact Or.inl h3
      · exact Or.inr ⟨k, by omega, by omega, h3⟩
theorem anyUp_congr {p r : Int → Bool} : ∀ (n : Nat) (a : Int), (∀ k : Int, a ≤ k → k < a + n → p k = r k) → anyUp p a n = anyUp r a n
  | 0, _, _ => rfl
  | n + 1, a, h => by
    rw [anyUp, anyUp, h a (by omega) (by omega), anyUp_congr n (a + 1) (fun k h1 h2 => h k (by omega) (by omega))]
theorem cntUp_congr {p r : Int → Bool} : ∀ (n : Nat) (a : Int), (∀ k : Int, a ≤ k → k < a + n → p k = r k) → cntUp p a n = cntUp r a n
  | 0, _, _ => rfl
  | n + 1, a, h => by
    rw [cntUp, cntUp, h a (by omega) (by omega), cntUp_congr n (a + 1) (fun k h1 h2 => h k (by omega) (by omega))]
theorem sumUp_congr {f g : Int → Nat} : ∀ (n : Nat) (a : Int), (∀ k : Int, a ≤ k → k < a + n → f k = g k) → sumUp f a n = sumUp g a n
  | 0, _, _ => rfl
  | n + 1, a, h => by
    rw [sumUp, sumUp, h a (by omega) (by omega), sumUp_congr n (a + 1) (fun k h1 h2 => h k (by omega) (by omega))]
theorem sumUp_zero {f : Int → Nat} : ∀ (n : Nat) (a : Int), (∀ k : Int, a ≤ k → k < a + n → f k = 0) → sumUp f a n = 0
  | 0, _, _ => rfl
  | n + 1, a, h => by
    rw [sumUp, h a (by omega) (by omega), sumUp_zero n (a + 1) (fun k h1 h2 => h k (by omega) (by omega))]
theorem sumUp_add {f : Int → Nat} (m : Nat) : ∀ (n : Nat) (a : Int), sumUp f a (n + m) = sumUp f a n + sumUp f (a + n) m
  | 0, a => by simp [sumUp]
  | n + 1, a => by
    rw [show n + 1 + m = (n + m) + 1 by omega, sumUp, sumUp, sumUp_add m n (a + 1), show a + 1 + (n : Int) = a + ((n + 1 : Nat) : Int) by omega]
    omega
theorem sumUp_cnt {p : Int → Bool} : ∀ (n : Nat) (a : Int), cntUp p a n = sumUp (fun k => if p k = true then 1 else 0) a n
  | 0, _ => rfl
  | n + 1, a => by rw [cntUp, sumUp, sumUp_cnt n (a + 1)]
/-- a sum over a range in which all but a middle part is 0 -/
theorem sumUp_mid {f : Int → Nat} {a b : Int} {n m : Nat} (h1 : a ≤ b) (h2 : b + m ≤ a + n) (hl : ∀ k : Int, a ≤ k → k < b → f k = 0) (hr : ∀ k : Int, b + m ≤ k → k < a + n → f k = 0) : sumUp f a n = sumUp f b m := by
  obtain ⟨u, hu⟩ : ∃ u : Nat, b = a + u := ⟨(b - a).toNat, by omega⟩
  obtain ⟨v, hv⟩ : ∃ v : Nat, n = u + (m + v) := ⟨n - u - m, by omega⟩
  subst hv
  rw [sumUp_add, sumUp_add, sumUp_zero u a (fun k q1 q2 => hl k q1 (by omega)), sumUp_zero v _ (fun k q1 q2 => hr k (by omega) (by omega)), ← hu]
  omega
theorem cntUp_le {p : Int → Bool} : ∀ (n : Nat) (a : Int), cntUp p a n ≤ n
  | 0, _ => Nat.le_refl 0
  | n + 1, a => by
    have := cntUp_le (p := p) n (a + 1)
    rw [cntUp]
    split <;> omega

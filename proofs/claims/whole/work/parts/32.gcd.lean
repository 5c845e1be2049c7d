/-! the greatest common divisor, both sides -/
theorem rem_z {a b : Nat} (ha : a < 2147483648) (hb : b < 2147483648) (h0 : 0 < b) : zI a - zI a / zI b * zI b = zI ((a % b : Nat) : Int) := by
  rw [zI_div (by omega) (by omega), zI_mul, zI_sub]
  congr 1
  rw [Int.tdiv_eq_ediv_of_nonneg (by omega), Int.natCast_emod, Int.emod_def, Int.mul_comm]
theorem half_mod {a b : Nat} (hb : 0 < b) (hr : 0 < a % b) : b % (a % b) < (b + 1) / 2 := by
  have h1 : a % b < b := Nat.mod_lt _ hb
  have h2 : b % (a % b) < a % b := Nat.mod_lt _ hr
  have h3 : b = (a % b) * (b / (a % b)) + b % (a % b) := (Nat.div_add_mod b (a % b)).symm
  have h4 : 1 ≤ b / (a % b) := (Nat.one_le_div_iff hr).mpr (Nat.le_of_lt h1)
  have h5 : (a % b) * 1 ≤ (a % b) * (b / (a % b)) := Nat.mul_le_mul_left _ h4
  omega
theorem abs_N {a : Nat} (h : a < 2147483648) : f_Mt_abs (zI a) = zI a := by
  unfold f_Mt_abs
  rw [if_pos (by rw [show (0 : Int32) = zI 0 from by decide, zI_le (by omega) (by omega)]; omega)]
theorem z0_iff {b : Nat} (h : b < 2147483648) : zI b = 0 ↔ b = 0 := by
  rw [show (0 : Int32) = zI 0 from by decide, zI_eq (by omega) (by omega)]
  omega
theorem gcd_m {Ω : rx_Om} {G : rx_Gh} {hp : rx_Hp} {F : Int32 → rx_Hp → Prop} : ∀ (k d a b : Nat), 2 * k ≤ d → b < 2 ^ k → a < 2147483648 → b < 2147483648 → F (zI (Nat.gcd a b : Nat)) hp → Ev Ω G (d + 2) q_M_divisor [.int (zI a), .int (zI b)] hp (rI F) := by
  intro k
  induction k with
  | zero =>
    intro d a b hd hb ha hb2 H
    have hb0 : b = 0 := by simp at hb; exact hb
    subst hb0
    refine w_M_divisor _ _ ⟨fun _ => ?_, fun c => absurd ((z0_iff (by omega)).mpr rfl) c⟩
    rw [abs_N ha]
    rw [Nat.gcd_zero_right] at H
    exact H
  | succ k ih =>
    intro d a b hd hb ha hb2 H
    refine w_M_divisor _ _ ⟨fun c => ?_, fun c => ?_⟩
    · have hb0 := (z0_iff hb2).mp c
      subst hb0
      rw [abs_N ha]
      rw [Nat.gcd_zero_right] at H
      exact H
    · have hb0 : 0 < b := by have := mtn (z0_iff hb2) c; omega
      have hm : a % b < b := Nat.mod_lt _ hb0
      rw [rem_z ha hb2 hb0]
      obtain ⟨d', rfl⟩ : ∃ d', d = d' + 2 := ⟨d - 2, by omega⟩
      refine w_M_divisor (d := d' + 1) _ _ ⟨fun c2 => ?_, fun c2 => ?_⟩
      · have hr0 := (z0_iff (by omega)).mp c2
        rw [abs_N hb2]
        rw [Nat.gcd_comm, Nat.gcd_rec, hr0, Nat.gcd_zero_left] at H
        exact H
      · have hr0 : 0 < a % b := by have := mtn (z0_iff (b := a % b) (by omega)) c2; omega
        have hm2 : b % (a % b) < a % b := Nat.mod_lt _ hr0
        have hh := half_mod hb0 hr0
        have h2k : 2 ^ (k + 1) = 2 * 2 ^ k := by rw [Nat.pow_succ]; omega
        rw [rem_z hb2 (by omega) hr0]
        refine ih d' (a % b) (b % (a % b)) (by omega) (by omega) (by omega) (by omega) ?_
        rw [Nat.gcd_comm, ← Nat.gcd_rec, ← Nat.gcd_rec, Nat.gcd_comm]
        exact H
theorem gcd_c {Ω : rx_Om} {G : rx_Gh} {hp : rx_Hp} {F : Int32 → rx_Hp → Prop} : ∀ (k a b j : Nat), j + 2 * k < 64 → b < 2 ^ k → a < 2147483648 → b < 2147483648 → F (zI (Nat.gcd a b : Nat)) hp → Rn Ω G 1 q_GR_divisor 7 [none, none, some (.int (zI a)), some (.int (zI b)), some (.int (zI j)), none] [] hp (rI F) := by
  have e64 : (64 : Int32) = zI 64 := by decide
  intro k
  induction k with
  | zero =>
    intro a b j hj hb ha hb2 H
    have hb0 : b = 0 := by simp at hb; exact hb
    subst hb0
    rw [Nat.gcd_zero_right] at H
    exact w_GR_divisor_7 _ _ _ ⟨fun _ => H, fun _ => ⟨fun _ => H, fun c => absurd ((z0_iff (by omega)).mpr rfl) c⟩⟩
  | succ k ih =>
    intro a b j hj hb ha hb2 H
    have c64 : ∀ n : Nat, n < 64 → ¬ 64 ≤ zI (n : Int) := fun n hn => by rw [e64, zI_le (by omega) (by omega)]; omega
    refine w_GR_divisor_7 _ _ _ ⟨fun c => absurd c (c64 j (by omega)), fun _ => ⟨fun c => ?_, fun c => ?_⟩⟩
    · have hb0 := (z0_iff hb2).mp c
      subst hb0
      rw [Nat.gcd_zero_right] at H
      exact H
    · have hb0 : 0 < b := by have := mtn (z0_iff hb2) c; omega
      have hm : a % b < b := Nat.mod_lt _ hb0
      rw [rem_z ha hb2 hb0, show zI (j : Int) + 1 = zI ((j + 1 : Nat) : Int) from zI_add j 1]
      refine w_GR_divisor_7 _ _ _ ⟨fun c => absurd c (c64 (j + 1) (by omega)), fun _ => ⟨fun c2 => ?_, fun c2 => ?_⟩⟩
      · have hr0 := (z0_iff (by omega)).mp c2
        rw [Nat.gcd_comm, Nat.gcd_rec, hr0, Nat.gcd_zero_left] at H
        exact H
      · have hr0 : 0 < a % b := by have := mtn (z0_iff (b := a % b) (by omega)) c2; omega
        have hm2 : b % (a % b) < a % b := Nat.mod_lt _ hr0
        have hh := half_mod hb0 hr0
        have h2k : 2 ^ (k + 1) = 2 * 2 ^ k := by rw [Nat.pow_succ]; omega
        rw [rem_z hb2 (by omega) hr0, show zI ((j + 1 : Nat) : Int) + 1 = zI ((j + 2 : Nat) : Int) from zI_add ((j + 1 : Nat) : Int) 1]
        refine ih (a % b) (b % (a % b)) (j + 2) (by omega) (by omega) (by omega) (by omega) ?_
        rw [Nat.gcd_comm, ← Nat.gcd_rec, ← Nat.gcd_rec, Nat.gcd_comm]
        exact H
/-- as specs for the lifter: numbers that are not negative, below 2^16 -/
def p_M_divisor (a1 a2 : Int32) : Prop := (0 ≤ a1.toInt) ∧ 0 ≤ a2.toInt ∧ a2.toInt < 65536
def f_M_divisor (a1 a2 : Int32) : Int32 := zI (Nat.gcd a1.toInt.toNat a2.toInt.toNat : Nat)
theorem s_M_divisor {Ω : rx_Om} {G : rx_Gh} {hp : rx_Hp} {F : Int32 → rx_Hp → Prop} (a1 a2 : Int32) (hP : p_M_divisor a1 a2) (H : F (f_M_divisor a1 a2) hp) : Ev Ω G 40 q_M_divisor [.int a1, .int a2] hp (rI F) := by
  obtain ⟨h1, h2, h3⟩ := hP
  have b1 := toInt_hi a1
  rw [zI_N h1, zI_N h2]
  exact gcd_m 16 38 _ _ (by omega) (by have : (2 : Nat) ^ 16 = 65536 := by decide
                                       omega) (by omega) (by omega) H
def p_GR_divisor (a1 a2 : Int32) : Prop := (0 ≤ a1.toInt) ∧ 0 ≤ a2.toInt ∧ a2.toInt < 65536
def f_GR_divisor (a1 a2 : Int32) : Int32 := zI (Nat.gcd a1.toInt.toNat a2.toInt.toNat : Nat)
theorem s_GR_divisor {Ω : rx_Om} {G : rx_Gh} {hp : rx_Hp} {F : Int32 → rx_Hp → Prop} (a1 a2 : Int32) (hP : p_GR_divisor a1 a2) (H : F (f_GR_divisor a1 a2) hp) : Ev Ω G 1 q_GR_divisor [.int a1, .int a2] hp (rI F) := by
  obtain ⟨h1, h2, h3⟩ := hP
  have b1 := toInt_hi a1
  refine w_GR_divisor a1 a2 ?_
  rw [zI_N h1, zI_N h2]
  exact gcd_c 16 _ _ 0 (by omega) (by have : (2 : Nat) ^ 16 = 65536 := by decide
                                      omega) (by omega) (by omega) H

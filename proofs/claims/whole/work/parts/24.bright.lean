/-! brightness: the model's loop, the class's table -/
theorem b2_t {b : Bool} (h : ¬ b2 b = 0) : b = true := by cases b with
  | true => rfl
  | false => exact absurd rfl h
theorem brI_step {t n : Nat} (ht : t ≤ 99) : zI (brI t n) * (100 - zI t) / 100 = zI (brI t (n + 1)) := by
  obtain ⟨h1, h2⟩ := brI_bd t ht n
  have h3 : 0 ≤ brI t n * (100 - t) := Int.mul_nonneg h1 (by omega)
  have h4 : brI t n * (100 - t) ≤ 1000000 * 100 := Int.mul_le_mul h2 (by omega) (by omega) (by omega)
  rw [show (100 : Int32) = zI 100 from by decide, zI_sub, zI_mul, zI_div (by omega) (by omega)]
  rw [brI, Int.tdiv_eq_ediv_of_nonneg h3]
def p_M_bright (a1 : Int32) (hp : rx_Hp) : Prop := (0 ≤ a1.toInt ∧ a1.toInt ≤ 20) ∧ 0 ≤ (hp.1 0 27).toInt ∧ (hp.1 0 27).toInt ≤ 99
def f_M_bright (a1 : Int32) (hp : rx_Hp) : Int32 := zI (brI (hp.1 0 27).toInt.toNat a1.toInt.toNat)
theorem l_M_bright {G : rx_Gh} {hp : rx_Hp} {F : Int32 → rx_Hp → Prop} {t n : Nat} (ht : t ≤ 99) (hn : n ≤ 20) (hh : hp.1 0 27 = zI t) (H : F (zI (brI t n)) hp) : ∀ (m k : Nat), k + m = n → Rn wM G 1 q_M_bright 6 [some (.ref 0), some (.int (zI n)), some (.int (zI (brI t k))), some (.int (zI k))] [] hp (rI F) := by
  intro m
  induction m with
  | zero =>
    intro k hk
    refine w_M_bright_6 _ _ _ ⟨fun _ => ?_, fun c => ?_⟩
    · rw [show k = n by omega]; exact H
    · exact absurd ((zI_le (by omega) (by omega)).mpr (by omega)) c
  | succ m ih =>
    intro k hk
    refine w_M_bright_6 _ _ _ ⟨fun c => ?_, fun _ => ?_⟩
    · have := (zI_le (by omega) (by omega)).mp c
      omega
    · rw [hh, brI_step ht, show (1 : Int32) = zI 1 from by decide, zI_add]
      have := ih (k + 1) (by omega)
      rw [show ((k + 1 : Nat) : Int) = (k : Int) + 1 by omega] at this
      exact this
theorem s_M_bright {G : rx_Gh} {hp : rx_Hp} {F : Int32 → rx_Hp → Prop} (a1 : Int32) (hP : p_M_bright a1 hp) (H0 : F (f_M_bright a1 hp) hp) : Ev wM G 1 q_M_bright [.ref 0, .int a1] hp (rI F) := by
  obtain ⟨⟨h1, h2⟩, h3, h4⟩ := hP
  refine w_M_bright a1 ?_
  have := l_M_bright (G := G) (t := (hp.1 0 27).toInt.toNat) (n := a1.toInt.toNat) (by omega) (by omega) (by rw [show (((hp.1 0 27).toInt.toNat : Nat) : Int) = (hp.1 0 27).toInt by omega, zI_self]) H0 a1.toInt.toNat 0 (by omega)
  rw [show ((a1.toInt.toNat : Nat) : Int) = a1.toInt by omega, zI_self] at this
  exact this

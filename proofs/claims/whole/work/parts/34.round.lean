/-! round, both sides -/
def A_round (nb w h : Nat) (r u : Int32) : Int32 := if decide (0 < nb) && wayI r u then zI ((2 * ((h * r.toInt.natAbs) / Nat.gcd (h * r.toInt.natAbs) (w * u.toInt.natAbs) + (w * u.toInt.natAbs) / Nat.gcd (h * r.toInt.natAbs) (w * u.toInt.natAbs)) : Nat) : Int) else -1
theorem div_z {a b : Nat} (ha : a < 2147483648) (hb : b < 2147483648) : zI a / zI b = zI ((a / b : Nat) : Int) := by
  rw [zI_div (by omega) (by omega)]
  congr 1
theorem stands_c {nb : Nat} (h6 : nb ≤ 6) {hc : rx_Hp} (h : hc.1 3 4 = zI nb) : f_Ha_stands hc = b2 (decide (0 < nb)) := by
  unfold f_Ha_stands b2
  rw [h, show (0 : Int32) = zI 0 from by decide]
  simp only [zI_le (a := (nb : Int)) (b := 0) (by omega) (by omega)]
  by_cases q : 0 < nb
  · rw [if_neg (by omega), if_pos (by simpa using q)]
  · rw [if_pos (by omega), if_neg (by simpa using q)]
section RND
variable {nb w h g t : Nat} {X Y A : Nat → Nat} {hc hm : rx_Hp}
theorem rnd_bd (ok : HOk nb w h g t X Y A) (h0 : 0 < nb) {r u : Int} (hr : -9 ≤ r ∧ r ≤ 9) (hu : -9 ≤ u ∧ u ≤ 9) (hn : ¬ (r = 0 ∧ u = 0)) : h * r.natAbs ≤ 180 ∧ w * u.natAbs ≤ 180 ∧ 0 < Nat.gcd (h * r.natAbs) (w * u.natAbs) := by
  obtain ⟨o1, o2, o3, o4, o5, o6, o7⟩ := ok
  have o6 := o6 h0
  have h1 : h * r.natAbs ≤ 20 * 9 := Nat.mul_le_mul o3 (by omega)
  have h2 : w * u.natAbs ≤ 20 * 9 := Nat.mul_le_mul o2 (by omega)
  refine ⟨h1, h2, ?_⟩
  by_cases hz : r = 0
  · refine Nat.gcd_pos_of_pos_right _ (Nat.mul_pos (by omega) ?_)
    have : u ≠ 0 := fun q => hn ⟨hz, q⟩
    omega
  · exact Nat.gcd_pos_of_pos_left _ (Nat.mul_pos (by omega) (by omega))
theorem wayI_nz {r u : Int} (hr : -9 ≤ r ∧ r ≤ 9) (hu : -9 ≤ u ∧ u ≤ 9) (h : wayI (zI r) (zI u) = true) : ¬ (r = 0 ∧ u = 0) := by
  rintro ⟨rfl, rfl⟩
  revert h
  decide
theorem a_round_c {G : rx_Gh} (ok : HOk nb w h g t X Y A) (H : HC nb w h g t X Y A hc) (r u : Int32) {F : Int32 → rx_Hp → Prop} (K : F (A_round nb w h r u) hc) : Ev wC G 3 q_GR_round [.ref 0, .int r, .int u] hc (rI F) := by
  have h6 := ok.1
  refine w_GR_round r u ?_
  rw [stands_c h6 H.1.1, way_c]
  unfold A_round at K
  refine ⟨fun c => ?_, fun c1 => ⟨fun c => ?_, fun c2 => ?_⟩⟩
  · rw [(b2_0 _).mp c] at K; exact K
  · rw [(b2_0 _).mp c, Bool.and_false] at K; exact K
  · have z1 := b2_t c1
    have z2 := b2_t c2
    rw [z1, z2, Bool.and_self, if_pos rfl] at K
    have h0 : 0 < nb := by simpa using z1
    obtain ⟨r', u', rfl, rfl, k1, k2⟩ := wayI_of z2
    obtain ⟨d1, d2, d3⟩ := rnd_bd ok h0 k1 k2 (wayI_nz k1 k2 z2)
    rw [zI_toInt (by omega) (by omega), zI_toInt (by omega) (by omega)] at K
    unfold p_Ba_cushionsRound f_Ba_cushionsRound p_GR_divisor f_GR_divisor
    rw [abs_z (by omega) (by omega), abs_z (by omega) (by omega), H.1.2.2.1, H.1.2.1, zI_mul, zI_mul, ← Int.natCast_mul, ← Int.natCast_mul]
    generalize h * r'.natAbs = a at *
    generalize w * u'.natAbs = b at *
    rw [zI_back (by omega), zI_back (by omega), zI_toInt (by omega) (by omega), zI_toInt (by omega) (by omega)]
    have hg1 : Nat.gcd a b ≤ 180 := by
      by_cases ha : 0 < a
      · exact Nat.le_trans (Nat.gcd_le_left b ha) d1
      · have : a = 0 := by omega
        subst this
        rw [Nat.gcd_zero_left]; exact d2
    refine ⟨⟨by omega, by omega, by omega⟩, ?_⟩
    rw [if_neg (mt (z0_iff (by omega)).mp (by omega)), div_z (by omega) (by omega), div_z (by omega) (by omega), zI_add, show (2 : Int32) = zI 2 from by decide, zI_mul]
    rw [Int.natCast_mul, Int.natCast_add] at K
    exact K
theorem a_round_m {G : rx_Gh} (ok : HOk nb w h g t X Y A) (H : HM nb w h g t X Y A hm) (r u : Int32) {F : Int32 → rx_Hp → Prop} (K : F (A_round nb w h r u) hm) : Ev wM G 41 q_M_round [.ref 0, .int r, .int u] hm (rI F) := by
  have h6 := ok.1
  have er : f_M_in r (-9) 9 = b2 (decide (-9 ≤ r.toInt) && decide (r.toInt ≤ 9)) := by rw [show (-9 : Int32) = zI (-9) from by decide, show (9 : Int32) = zI 9 from by decide]; exact in_m r (by omega) (by omega)
  have eu : f_M_in u (-9) 9 = b2 (decide (-9 ≤ u.toInt) && decide (u.toInt ≤ 9)) := by rw [show (-9 : Int32) = zI (-9) from by decide, show (9 : Int32) = zI 9 from by decide]; exact in_m u (by omega) (by omega)
  refine w_M_round r u ?_
  rw [er, eu, H.1.1, H.1.2.2.1, H.1.2.1]
  have fin : 0 < nb → wayI r u = true → p_M_divisor (zI h * f_Mt_abs r) (zI w * f_Mt_abs u) ∧ ¬ f_M_divisor (zI h * f_Mt_abs r) (zI w * f_Mt_abs u) = 0 ∧ F (2 * (zI h * f_Mt_abs r + zI w * f_Mt_abs u) / f_M_divisor (zI h * f_Mt_abs r) (zI w * f_Mt_abs u)) hm := by
    intro h0 z2
    unfold A_round at K
    rw [z2, Bool.and_true, if_pos (by simpa using h0)] at K
    obtain ⟨r', u', rfl, rfl, k1, k2⟩ := wayI_of z2
    obtain ⟨d1, d2, d3⟩ := rnd_bd ok h0 k1 k2 (wayI_nz k1 k2 z2)
    rw [zI_toInt (by omega) (by omega), zI_toInt (by omega) (by omega)] at K
    unfold p_M_divisor f_M_divisor
    rw [abs_z (by omega) (by omega), abs_z (by omega) (by omega), zI_mul, zI_mul, ← Int.natCast_mul, ← Int.natCast_mul]
    generalize h * r'.natAbs = a at *
    generalize w * u'.natAbs = b at *
    rw [zI_back (by omega), zI_back (by omega), zI_toInt (by omega) (by omega), zI_toInt (by omega) (by omega)]
    have hg1 : Nat.gcd a b ≤ 180 := by
      by_cases ha : 0 < a
      · exact Nat.le_trans (Nat.gcd_le_left b ha) d1
      · have : a = 0 := by omega
        subst this
        rw [Nat.gcd_zero_left]; exact d2
    refine ⟨⟨by omega, by omega, by omega⟩, mt (z0_iff (by omega)).mp (by omega), ?_⟩
    rw [zI_add, show (2 : Int32) = zI 2 from by decide, zI_mul, show (2 : Int) * ((a : Int) + (b : Int)) = ((2 * (a + b) : Nat) : Int) by omega, div_z (by omega) (by omega)]
    have e : 2 * (a + b) / Nat.gcd a b = 2 * (a / Nat.gcd a b + b / Nat.gcd a b) := by
      obtain ⟨x, hx⟩ := Nat.gcd_dvd_left a b
      obtain ⟨y, hy⟩ := Nat.gcd_dvd_right a b
      generalize Nat.gcd a b = G at *
      subst hx
      subst hy
      rw [Nat.mul_div_cancel_left _ d3, Nat.mul_div_cancel_left _ d3, ← Nat.mul_add, Nat.mul_left_comm, Nat.mul_div_cancel_left _ d3]
    rw [e]
    exact K
  have wy : ∀ (q3 : ¬ b2 (decide (-9 ≤ r.toInt) && decide (r.toInt ≤ 9)) = 0) (q4 : ¬ b2 (decide (-9 ≤ u.toInt) && decide (u.toInt ≤ 9)) = 0), ¬ (r = 0 ∧ u = 0) → wayI r u = true := by
    intro q3 q4 q5
    unfold wayI
    rw [b2_t q3, b2_t q4]
    by_cases z : r = 0
    · have : ¬ u = 0 := fun q => q5 ⟨z, q⟩
      simp [z, this]
    · simp [z]
  unfold A_round at K
  refine ⟨fun c => ?_, fun c1 => ⟨fun c => ?_, fun c2 => ⟨fun c => ?_, fun c3 => ⟨fun c4 => ⟨fun c => ?_, fun c5 => ?_⟩, fun c4 => ?_⟩⟩⟩⟩
  · have := (z0_iff (by omega)).mp c
    rw [if_neg (by simp [this])] at K; exact K
  · rw [if_neg (by unfold wayI; rw [(b2_0 _).mp c]; simp)] at K; exact K
  · rw [if_neg (by unfold wayI; rw [(b2_0 _).mp c]; simp)] at K; exact K
  · rw [if_neg (by unfold wayI; rw [c4, c]; simp)] at K; exact K
  · have := mtn (z0_iff (b := nb) (by omega)) c1
    exact fin (by omega) (wy c2 c3 (fun q => c5 q.2))
  · have := mtn (z0_iff (b := nb) (by omega)) c1
    exact fin (by omega) (wy c2 c3 (fun q => c4 q.1))
end RND

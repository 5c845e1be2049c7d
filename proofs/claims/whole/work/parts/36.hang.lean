/-! hang: the model's side and the two answers -/
section HNM
variable {nb w h g t : Nat} {X Y A : Nat → Nat} {hc hm : rx_Hp}
theorem lay_m (ok : HOk nb w h g t X Y A) (H : HM nb w h g t X Y A hm) {e b wl : Nat} (he : e < nb) (hb : b < nb) (hw : wl < 4) : p_M_layHang (zI e) (zI b) (zI wl) ∧ f_M_layHang (zI e) (zI b) (zI wl) hm = b2 (decide (0 < hDen w h X Y wl e b)) ∧ g_M_layHang (zI e) (zI b) (zI wl) hm = rx_pf (rx_pf hm 0 35 (zI (hNum w h X Y wl e b : Nat))) 0 36 (zI (hDen w h X Y wl e b : Nat)) := by
  have h6 := ok.1
  have qe := ok.2.2.2.2.2.2 e he
  have qb := ok.2.2.2.2.2.2 b hb
  obtain ⟨n1, n2⟩ := num_bd ok (wl := wl) he hb
  have v1 : vp_in (zI (e : Int)) 6 := vp_N (by omega) (by omega)
  have v2 : vp_in (zI (b : Int)) 6 := vp_N (by omega) (by omega)
  have key : ∀ d : Nat, d ≤ 40 → (if zI (d : Int) ≤ 0 then (0 : Int32) else 1) = b2 (decide (0 < d)) := by
    intro d hd
    unfold b2
    rw [show (0 : Int32) = zI 0 from by decide]
    simp only [zI_le (a := (d : Int)) (b := 0) (by omega) (by omega)]
    by_cases q : 0 < d
    · rw [if_neg (by omega), if_pos (by simpa using q)]
    · rw [if_pos (by omega), if_neg (by simpa using q)]
  refine ⟨⟨fun _ => ⟨v1, v2⟩, fun _ => ⟨v1, v2⟩⟩, ?_, ?_⟩
  · rw [← key _ n2]
    unfold f_M_layHang
    rw [zI_cN (by omega), zI_cN (by omega), (H.2 e he).1, (H.2 e he).2.1, (H.2 b hb).1, (H.2 b hb).2.1, H.1.2.1, H.1.2.2.1]
    rcases wl4 hw with rfl | rfl | rfl | rfl
    · have a1 : ¬ ((if zI ((0 : Nat) : Int) = 0 then (1 : Int32) else if zI ((0 : Nat) : Int) = 1 then 1 else 0) = 0) := by decide
      have a2 : zI ((0 : Nat) : Int) - zI ((0 : Nat) : Int) / 2 * 2 = 0 := by decide
      simp only [if_neg a1, if_pos a2]
      simp only [zI_mul, zI_add]
      rfl
    · have a1 : ¬ ((if zI ((1 : Nat) : Int) = 0 then (1 : Int32) else if zI ((1 : Nat) : Int) = 1 then 1 else 0) = 0) := by decide
      have a2 : ¬ (zI ((1 : Nat) : Int) - zI ((1 : Nat) : Int) / 2 * 2 = 0) := by decide
      simp only [if_neg a1, if_neg a2]
      rw [zI_subN qe.1, zI_subN qb.1]
      simp only [zI_mul, zI_add]
      rfl
    · have a1 : (if zI ((2 : Nat) : Int) = 0 then (1 : Int32) else if zI ((2 : Nat) : Int) = 1 then 1 else 0) = 0 := by decide
      have a2 : zI ((2 : Nat) : Int) - zI ((2 : Nat) : Int) / 2 * 2 = 0 := by decide
      simp only [if_pos a1, if_pos a2]
      simp only [zI_mul, zI_add]
      rfl
    · have a1 : (if zI ((3 : Nat) : Int) = 0 then (1 : Int32) else if zI ((3 : Nat) : Int) = 1 then 1 else 0) = 0 := by decide
      have a2 : ¬ (zI ((3 : Nat) : Int) - zI ((3 : Nat) : Int) / 2 * 2 = 0) := by decide
      simp only [if_pos a1, if_neg a2]
      rw [zI_subN qe.2.1, zI_subN qb.2.1]
      simp only [zI_mul, zI_add]
      rfl
  · unfold g_M_layHang
    rw [zI_cN (by omega), zI_cN (by omega), (H.2 e he).1, (H.2 e he).2.1, (H.2 b hb).1, (H.2 b hb).2.1, H.1.2.1, H.1.2.2.1]
    rcases wl4 hw with rfl | rfl | rfl | rfl
    · have a1 : ¬ ((if zI ((0 : Nat) : Int) = 0 then (1 : Int32) else if zI ((0 : Nat) : Int) = 1 then 1 else 0) = 0) := by decide
      have a2 : zI ((0 : Nat) : Int) - zI ((0 : Nat) : Int) / 2 * 2 = 0 := by decide
      simp only [if_neg a1, if_pos a2]
      simp only [zI_mul, zI_add]
      rfl
    · have a1 : ¬ ((if zI ((1 : Nat) : Int) = 0 then (1 : Int32) else if zI ((1 : Nat) : Int) = 1 then 1 else 0) = 0) := by decide
      have a2 : ¬ (zI ((1 : Nat) : Int) - zI ((1 : Nat) : Int) / 2 * 2 = 0) := by decide
      simp only [if_neg a1, if_neg a2]
      rw [zI_subN qe.1, zI_subN qb.1]
      simp only [zI_mul, zI_add]
      rfl
    · have a1 : (if zI ((2 : Nat) : Int) = 0 then (1 : Int32) else if zI ((2 : Nat) : Int) = 1 then 1 else 0) = 0 := by decide
      have a2 : zI ((2 : Nat) : Int) - zI ((2 : Nat) : Int) / 2 * 2 = 0 := by decide
      simp only [if_pos a1, if_pos a2]
      simp only [zI_mul, zI_add]
      rfl
    · have a1 : (if zI ((3 : Nat) : Int) = 0 then (1 : Int32) else if zI ((3 : Nat) : Int) = 1 then 1 else 0) = 0 := by decide
      have a2 : ¬ (zI ((3 : Nat) : Int) - zI ((3 : Nat) : Int) / 2 * 2 = 0) := by decide
      simp only [if_pos a1, if_neg a2]
      rw [zI_subN qe.2.1, zI_subN qb.2.1]
      simp only [zI_mul, zI_add]
      rfl
theorem plain_m {n d : Nat} (hn : n < 65536) (hd : d < 65536) (h0 : 0 < d) (part : Int32) : p_M_plain (zI n) (zI d) part ∧ f_M_plain (zI n) (zI d) part = if part = 0 then zI (n / Nat.gcd n d : Nat) else zI (d / Nat.gcd n d : Nat) := by
  have hg : 0 < Nat.gcd n d := Nat.gcd_pos_of_pos_right _ h0
  have hg2 : Nat.gcd n d ≤ d := Nat.gcd_le_right n h0
  have eg : f_M_divisor (zI d) (zI n) = zI (Nat.gcd n d : Nat) := by unfold f_M_divisor; rw [zI_back (by omega), zI_back (by omega), Nat.gcd_comm]
  have c3 : ¬ zI ((Nat.gcd n d : Nat) : Int) = 0 := mt (z0_iff (by omega)).mp (by omega)
  refine ⟨⟨⟨by rw [zI_toInt (by omega) (by omega)]; omega, by rw [zI_toInt (by omega) (by omega)]; omega, by rw [zI_toInt (by omega) (by omega)]; omega⟩, fun _ => by rw [eg]; exact c3, fun _ => by rw [eg]; exact c3⟩, ?_⟩
  unfold f_M_plain
  rw [eg, div_z (by omega) (by omega), div_z (by omega) (by omega)]
def wpI (wl part : Int32) : Bool := (decide (0 ≤ wl.toInt) && decide (wl.toInt ≤ 3)) && (decide (0 ≤ part.toInt) && decide (part.toInt ≤ 1))
theorem wp_c (wl part : Int32) : f_GR_isWallPart wl part = b2 (wpI wl part) := by
  unfold f_GR_isWallPart wpI
  rw [show (0 : Int32) = zI 0 from by decide, show (3 : Int32) = zI 3 from by decide, show (1 : Int32) = zI 1 from by decide]
  simp only [i_lt wl 0 (by omega), i_lt' wl 3 (by omega), i_lt part 0 (by omega), i_lt' part 1 (by omega)]
  unfold b2
  rw [show (0 : Int32) = zI 0 from by decide, show (1 : Int32) = zI 1 from by decide]
  by_cases q1 : wl.toInt < 0
  · rw [if_pos q1, if_neg (by simp; omega)]
  · by_cases q2 : 3 < wl.toInt
    · rw [if_neg q1, if_pos q2, if_neg (by simp; omega)]
    · by_cases q3 : part.toInt < 0
      · rw [if_neg q1, if_neg q2, if_pos q3, if_neg (by simp; omega)]
      · by_cases q4 : 1 < part.toInt
        · rw [if_neg q1, if_neg q2, if_neg q3, if_pos q4, if_neg (by simp; omega)]
        · rw [if_neg q1, if_neg q2, if_neg q3, if_neg q4, if_pos (by simp; omega)]
theorem wpI_of {wl part : Int32} (h : wpI wl part = true) : ∃ k : Nat, k < 4 ∧ wl = zI k := by
  unfold wpI at h
  simp only [Bool.and_eq_true, decide_eq_true_eq] at h
  exact ⟨wl.toInt.toNat, by omega, zI_N (by omega)⟩
def A_hang (nb w h : Nat) (X Y : Nat → Nat) (e b wl part : Int32) : Int32 :=
  if isB nb e && (isB nb b && (!decide (e = b) && (wpI wl part && decide (0 < hDen w h X Y wl.toInt.toNat e.toInt.toNat b.toInt.toNat)))) then
    (if part = 0 then zI (hNum w h X Y wl.toInt.toNat e.toInt.toNat b.toInt.toNat / Nat.gcd (hNum w h X Y wl.toInt.toNat e.toInt.toNat b.toInt.toNat) (hDen w h X Y wl.toInt.toNat e.toInt.toNat b.toInt.toNat) : Nat) else zI (hDen w h X Y wl.toInt.toNat e.toInt.toNat b.toInt.toNat / Nat.gcd (hNum w h X Y wl.toInt.toNat e.toInt.toNat b.toInt.toNat) (hDen w h X Y wl.toInt.toNat e.toInt.toNat b.toInt.toNat) : Nat))
  else -1
theorem a_hang_c {G : rx_Gh} (ok : HOk nb w h g t X Y A) (H : HC nb w h g t X Y A hc) (e b wl part : Int32) {F : Int32 → rx_Hp → Prop} (K : ∀ hp, Fr [(46, 1), (46, 2)] [] hc hp → F (A_hang nb w h X Y e b wl part) hp) : Ev wC G 4 q_GR_hang [.ref 0, .int e, .int b, .int wl, .int part] hc (rI F) := by
  have h6 := ok.1
  refine w_GR_hang e b wl part ?_
  rw [has_c h6 H.1.1, has_c h6 H.1.1, wp_c]
  unfold A_hang at K
  refine ⟨fun c => ?_, fun c1 => ⟨fun c => ?_, fun c2 => ⟨fun c => ?_, fun c3 => ⟨fun c => ?_, fun c4 => ?_⟩⟩⟩⟩
  · have K := K hc Fr.rf
    rw [(b2_0 _).mp c] at K; exact K
  · have K := K hc Fr.rf
    rw [(b2_0 _).mp c, Bool.false_and, Bool.and_false] at K; exact K
  · have K := K hc Fr.rf
    rw [if_neg (by simp [c])] at K; exact K
  · have K := K hc Fr.rf
    rw [(b2_0 _).mp c, Bool.false_and, Bool.and_false, Bool.and_false, Bool.and_false] at K; exact K
  · have z1 := b2_t c1
    have z2 := b2_t c2
    have z4 := b2_t c4
    rw [z1, z2, z4, Bool.true_and, Bool.true_and, Bool.true_and, show (!decide (e = b)) = true by simp [c3], Bool.true_and] at K
    obtain ⟨e', k1, rfl⟩ := isB_of z1
    obtain ⟨b', k2, rfl⟩ := isB_of z2
    obtain ⟨wl', k3, rfl⟩ := wpI_of z4
    rw [zI_back (by omega), zI_back (by omega), zI_back (by omega)] at K
    obtain ⟨p1, p2, p3⟩ := place_c ok H k1 k2 k3
    refine ⟨p1, ?_⟩
    rw [p2, p3]
    by_cases hd : 0 < hDen w h X Y wl' e' b'
    · rw [if_pos (by simpa using hd)] at K
      rw [if_pos hd, pf_same, pf_ne _ _ (by decide), pf_same]
      refine ⟨fun z => absurd z (by simp [b2, hd]), fun _ => K _ ((Fr.rf.pf (by decide)).pf (by decide))⟩
    · rw [if_neg (by simpa using hd)] at K
      rw [if_neg hd]
      exact ⟨fun _ => K _ Fr.rf, fun z => absurd ((b2_0 _).mpr (by simpa using hd)) z⟩
theorem a_hang_m {G : rx_Gh} (ok : HOk nb w h g t X Y A) (H : HM nb w h g t X Y A hm) (e b wl part : Int32) {F : Int32 → rx_Hp → Prop} (K : ∀ hp, Fr [(0, 35), (0, 36)] [] hm hp → F (A_hang nb w h X Y e b wl part) hp) : Ev wM G 42 q_M_hang [.ref 0, .int e, .int b, .int wl, .int part] hm (rI F) := by
  have h6 := ok.1
  have e1 : f_M_in wl 0 3 = b2 (decide (0 ≤ wl.toInt) && decide (wl.toInt ≤ 3)) := in_m wl (lo := 0) (hi := 3) (by omega) (by omega)
  have e2 : f_M_in part 0 1 = b2 (decide (0 ≤ part.toInt) && decide (part.toInt ≤ 1)) := in_m part (lo := 0) (hi := 1) (by omega) (by omega)
  refine w_M_hang e b wl part ?_
  rw [isB_m h6 H.1.1, isB_m h6 H.1.1, e1, e2]
  unfold A_hang at K
  refine ⟨fun c => ?_, fun c1 => ⟨fun c => ?_, fun c2 => ⟨fun c => ?_, fun c3 => ⟨fun c => ?_, fun c4 => ⟨fun c => ?_, fun c5 => ?_⟩⟩⟩⟩⟩
  · have K := K hm Fr.rf
    rw [(b2_0 _).mp c] at K; exact K
  · have K := K hm Fr.rf
    rw [(b2_0 _).mp c, Bool.false_and, Bool.and_false] at K; exact K
  · have K := K hm Fr.rf
    rw [if_neg (by simp [c])] at K; exact K
  · have K := K hm Fr.rf
    rw [if_neg (by unfold wpI; rw [(b2_0 _).mp c]; simp)] at K; exact K
  · have K := K hm Fr.rf
    rw [if_neg (by unfold wpI; rw [(b2_0 _).mp c]; simp)] at K; exact K
  · have z1 := b2_t c1
    have z2 := b2_t c2
    have z4 : wpI wl part = true := by unfold wpI; rw [b2_t c4, b2_t c5]; rfl
    rw [z1, z2, z4, Bool.true_and, Bool.true_and, Bool.true_and, show (!decide (e = b)) = true by simp [c3], Bool.true_and] at K
    obtain ⟨e', k1, rfl⟩ := isB_of z1
    obtain ⟨b', k2, rfl⟩ := isB_of z2
    obtain ⟨wl', k3, rfl⟩ := wpI_of z4
    rw [zI_back (by omega), zI_back (by omega), zI_back (by omega)] at K
    obtain ⟨p1, p2, p3⟩ := lay_m ok H k1 k2 k3
    obtain ⟨n1, n2⟩ := num_bd ok (wl := wl') k1 k2
    have fr : Fr [(0, 35), (0, 36)] [] hm (rx_pf (rx_pf hm 0 35 (zI (hNum w h X Y wl' e' b' : Nat))) 0 36 (zI (hDen w h X Y wl' e' b' : Nat))) := (Fr.rf.pf (by decide)).pf (by decide)
    refine ⟨p1, ?_⟩
    rw [p2, p3, pf_same, pf_ne _ _ (by decide), pf_same]
    have K := K _ fr
    by_cases hd : 0 < hDen w h X Y wl' e' b'
    · rw [if_pos (by simpa using hd)] at K
      obtain ⟨r1, r2⟩ := plain_m (n := hNum w h X Y wl' e' b') (d := hDen w h X Y wl' e' b') (by omega) (by omega) hd part
      refine ⟨fun z => absurd z (by simp [b2, hd]), fun _ => ⟨r1, ?_⟩⟩
      rw [r2]
      exact K
    · rw [if_neg (by simpa using hd)] at K
      exact ⟨fun _ => K, fun z => absurd ((b2_0 _).mpr (by simpa using hd)) z⟩
end HNM

/-! hang, both sides -/
def offN (w h : Nat) (X Y : Nat → Nat) (wl b : Nat) : Nat := if wl = 0 then X b else if wl = 1 then w - X b else if wl = 2 then Y b else h - Y b
def alN (X Y : Nat → Nat) (wl b : Nat) : Nat := if wl ≤ 1 then Y b else X b
def hNum (w h : Nat) (X Y : Nat → Nat) (wl e b : Nat) : Nat := alN X Y wl e * offN w h X Y wl b + alN X Y wl b * offN w h X Y wl e
def hDen (w h : Nat) (X Y : Nat → Nat) (wl e b : Nat) : Nat := offN w h X Y wl e + offN w h X Y wl b
theorem wl4 {wl : Nat} (h : wl < 4) : wl = 0 ∨ wl = 1 ∨ wl = 2 ∨ wl = 3 := by omega
theorem zI_subN {a b : Nat} (h : b ≤ a) : zI a - zI b = zI ((a - b : Nat) : Int) := by rw [zI_sub]; congr 1; omega
section HNG
variable {nb w h g t : Nat} {X Y A : Nat → Nat} {hc hm : rx_Hp}
theorem off_bd (ok : HOk nb w h g t X Y A) {b wl : Nat} (hb : b < nb) : offN w h X Y wl b ≤ 20 ∧ alN X Y wl b ≤ 20 := by
  obtain ⟨o1, o2, o3, o4, o5, o6, o7⟩ := ok
  have := o7 b hb
  unfold offN alN
  constructor <;> (repeat' split) <;> omega
theorem num_bd (ok : HOk nb w h g t X Y A) {e b wl : Nat} (he : e < nb) (hb : b < nb) : hNum w h X Y wl e b ≤ 800 ∧ hDen w h X Y wl e b ≤ 40 := by
  have q1 := off_bd ok (wl := wl) he
  have q2 := off_bd ok (wl := wl) hb
  have m1 : alN X Y wl e * offN w h X Y wl b ≤ 20 * 20 := Nat.mul_le_mul q1.2 q2.1
  have m2 : alN X Y wl b * offN w h X Y wl e ≤ 20 * 20 := Nat.mul_le_mul q2.2 q1.1
  unfold hNum hDen
  omega
theorem off_c (ok : HOk nb w h g t X Y A) (H : HC nb w h g t X Y A hc) {b wl : Nat} (hb : b < nb) (hw : wl < 4) : p_Hg_offWall (zI b) (zI wl) ∧ f_Hg_offWall (zI b) (zI wl) hc = zI (offN w h X Y wl b : Nat) ∧ p_Hg_alongWall (zI b) (zI wl) ∧ f_Hg_alongWall (zI b) (zI wl) hc = zI (alN X Y wl b : Nat) := by
  have h6 := ok.1
  have q := ok.2.2.2.2.2.2 b hb
  have v : vp_in (zI (b : Int)) 6 := vp_N (by omega) (by omega)
  refine ⟨⟨fun _ => v, fun _ => v, fun _ => v, fun _ _ _ => v⟩, ?_, ⟨fun _ => v, fun _ => v⟩, ?_⟩
  · unfold f_Hg_offWall offN
    rw [zI_cN (by omega), (H.2.1 b hb).1, (H.2.1 b hb).2.1, H.1.2.1, H.1.2.2.1]
    rcases wl4 hw with rfl | rfl | rfl | rfl
    · rw [if_pos (by decide), if_pos (by decide)]
    · rw [if_neg (by decide), if_pos (by decide), if_neg (by decide), if_pos (by decide), zI_subN q.1]
    · rw [if_neg (by decide), if_neg (by decide), if_pos (by decide), if_neg (by decide), if_neg (by decide), if_pos (by decide)]
    · rw [if_neg (by decide), if_neg (by decide), if_neg (by decide), if_neg (by decide), if_neg (by decide), if_neg (by decide), zI_subN q.2.1]
  · unfold f_Hg_alongWall alN
    rw [zI_cN (by omega), (H.2.1 b hb).1, (H.2.1 b hb).2.1]
    rcases wl4 hw with rfl | rfl | rfl | rfl
    · rw [if_neg (by decide), if_pos (by decide)]
    · rw [if_neg (by decide), if_pos (by decide)]
    · rw [if_pos (by decide), if_neg (by decide)]
    · rw [if_pos (by decide), if_neg (by decide)]
/-- a fraction made plain: what the class keeps -/
theorem become_c {hp : rx_Hp} {n d : Nat} (hn : n < 2147483648) (hd : d < 65536) (h0 : 0 < d) : p_Hg_become (zI n) (zI d) ∧ f_Hg_become (zI n) (zI d) = 1 ∧ g_Hg_become (zI n) (zI d) hp = rx_pf (rx_pf hp 46 1 (zI (n / Nat.gcd n d : Nat))) 46 2 (zI (d / Nat.gcd n d : Nat)) := by
  have hg : 0 < Nat.gcd n d := Nat.gcd_pos_of_pos_right _ h0
  have hg2 : Nat.gcd n d ≤ d := Nat.gcd_le_right n h0
  have c1 : ¬ zI (d : Int) ≤ 0 := by rw [show (0 : Int32) = zI 0 from by decide, zI_le (by omega) (by omega)]; omega
  have eg : f_GR_divisor (zI n) (zI d) = zI (Nat.gcd n d : Nat) := by unfold f_GR_divisor; rw [zI_back (by omega), zI_back (by omega)]
  have c2 : 0 < zI ((Nat.gcd n d : Nat) : Int) := by rw [show (0 : Int32) = zI 0 from by decide, zI_lt (by omega) (by omega)]; omega
  have c3 : ¬ zI ((Nat.gcd n d : Nat) : Int) = 0 := mt (z0_iff (by omega)).mp (by omega)
  refine ⟨⟨⟨by rw [zI_toInt (by omega) (by omega)]; omega, by rw [zI_toInt (by omega) (by omega)]; omega, by rw [zI_toInt (by omega) (by omega)]; omega⟩, fun _ _ => by rw [eg]; exact c3⟩, ?_, ?_⟩
  · unfold f_Hg_become
    rw [eg, if_neg c1, if_pos c2]
  · unfold g_Hg_become
    rw [eg, if_neg c1, if_pos c2, div_z (by omega) (by omega), div_z (by omega) (by omega)]
theorem become_0 {hp : rx_Hp} {n : Nat} (hn : n < 2147483648) : p_Hg_become (zI n) (zI (0 : Nat)) ∧ f_Hg_become (zI n) (zI (0 : Nat)) = 0 ∧ g_Hg_become (zI n) (zI (0 : Nat)) hp = hp := by
  have c1 : zI ((0 : Nat) : Int) ≤ 0 := by decide
  refine ⟨⟨⟨by rw [zI_toInt (by omega) (by omega)]; omega, by decide, by decide⟩, fun c => absurd c1 c⟩, ?_, ?_⟩
  · unfold f_Hg_become; rw [if_pos c1]
  · unfold g_Hg_become; rw [if_pos c1]
theorem place_c (ok : HOk nb w h g t X Y A) (H : HC nb w h g t X Y A hc) {e b wl : Nat} (he : e < nb) (hb : b < nb) (hw : wl < 4) : p_Hg_place (zI e) (zI b) (zI wl) hc ∧ f_Hg_place (zI e) (zI b) (zI wl) hc = b2 (decide (0 < hDen w h X Y wl e b)) ∧ g_Hg_place (zI e) (zI b) (zI wl) hc = (if 0 < hDen w h X Y wl e b then rx_pf (rx_pf hc 46 1 (zI (hNum w h X Y wl e b / Nat.gcd (hNum w h X Y wl e b) (hDen w h X Y wl e b) : Nat))) 46 2 (zI (hDen w h X Y wl e b / Nat.gcd (hNum w h X Y wl e b) (hDen w h X Y wl e b) : Nat)) else hc) := by
  obtain ⟨p1, p2, p3, p4⟩ := off_c ok H he hw
  obtain ⟨q1, q2, q3, q4⟩ := off_c ok H hb hw
  obtain ⟨n1, n2⟩ := num_bd ok (wl := wl) he hb
  have eN : f_Hg_alongWall (zI e) (zI wl) hc * f_Hg_offWall (zI b) (zI wl) hc + f_Hg_alongWall (zI b) (zI wl) hc * f_Hg_offWall (zI e) (zI wl) hc = zI (hNum w h X Y wl e b : Nat) := by
    rw [p2, p4, q2, q4, zI_mul, zI_mul, zI_add]
    unfold hNum
    congr 1
  have eD : f_Hg_offWall (zI e) (zI wl) hc + f_Hg_offWall (zI b) (zI wl) hc = zI (hDen w h X Y wl e b : Nat) := by
    rw [p2, q2, zI_add]
    unfold hDen
    congr 1
  unfold p_Hg_place f_Hg_place g_Hg_place
  rw [eN, eD]
  generalize hNum w h X Y wl e b = n at *
  generalize hDen w h X Y wl e b = d at *
  by_cases h0 : 0 < d
  · obtain ⟨r1, r2, r3⟩ := become_c (hp := hc) (n := n) (d := d) (by omega) (by omega) h0
    refine ⟨⟨p1, q1, p3, q3, r1⟩, ?_, ?_⟩
    · rw [r2]; simp [h0, b2]
    · rw [r3, if_pos h0]
  · have : d = 0 := by omega
    subst this
    obtain ⟨r1, r2, r3⟩ := become_0 (hp := hc) (n := n) (by omega)
    refine ⟨⟨p1, q1, p3, q3, r1⟩, ?_, ?_⟩
    · rw [r2]; simp [b2]
    · rw [r3, if_neg h0]
end HNG

/-! Sight.blocks (class) -/
theorem bt_c {a b : Int} (ha : -1000 ≤ a ∧ a ≤ 1000) (hb : -1000 ≤ b ∧ b ≤ 1000) : f_Si_isBetween (zI a) (zI b) = b2 (btI a b) := by
  unfold f_Si_isBetween btI b2
  have c0 : (zI b ≤ 0) ↔ b ≤ 0 := by rw [show (0 : Int32) = zI 0 from by decide]; exact zI_le (by omega) (by omega)
  have c1 : ((0 : Int32) ≤ zI a) ↔ 0 ≤ a := by rw [show (0 : Int32) = zI 0 from by decide]; exact zI_le (by omega) (by omega)
  have c2 : (zI a ≤ 0) ↔ a ≤ 0 := by rw [show (0 : Int32) = zI 0 from by decide]; exact zI_le (by omega) (by omega)
  have c3 : (zI a ≤ zI b) ↔ a ≤ b := zI_le (by omega) (by omega)
  have c4 : (zI b ≤ zI a) ↔ b ≤ a := zI_le (by omega) (by omega)
  simp only [c0, c1, c2, c3, c4]
  by_cases z0 : b ≤ 0
  · rw [if_pos z0, if_neg (show ¬ 0 < b by omega)]
    by_cases z1 : 0 ≤ a
    · rw [if_pos z1, if_neg (by simp; omega)]
    · by_cases z2 : a ≤ b
      · rw [if_neg z1, if_pos z2, if_neg (by simp; omega)]
      · rw [if_neg z1, if_neg z2, if_pos (by simp; omega)]
  · rw [if_neg z0, if_pos (show 0 < b by omega)]
    by_cases z1 : a ≤ 0
    · rw [if_pos z1, if_neg (by simp; omega)]
    · by_cases z2 : b ≤ a
      · rw [if_neg z1, if_pos z2, if_neg (by simp; omega)]
      · rw [if_neg z1, if_neg z2, if_pos (by simp; omega)]
section BLC
variable {nb w h g t : Nat} {X Y A : Nat → Nat} {hc : rx_Hp}
def SG (ex ey p q l1 h1 l2 h2 : Int) (hc : rx_Hp) : Prop := (hc.1 43 1 = zI ex ∧ hc.1 43 2 = zI ey ∧ hc.1 43 3 = zI p ∧ hc.1 43 4 = zI q) ∧ (hc.1 43 5 = zI l1 ∧ hc.1 43 6 = zI h1 ∧ hc.1 43 7 = zI l2 ∧ hc.1 43 8 = zI h2)
def swV (h : Nat) (Y : Nat → Nat) (e : Nat) (p q x : Int) (o : Nat) (v : Int) : Bool := swP p q x (spI v h (Y o) - Y e)
theorem st_j {G : rx_Gh} {F : Int32 → rx_Hp → Prop} (ok : HOk nb w h g t X Y A) (H : HC nb w h g t X Y A hc) {e o : Nat} (he : e < nb) (ho : o < nb) {p q x l1 h1 l2 h2 : Int} (S : SG (X e) (Y e) p q l1 h1 l2 h2 hc) (hp : -240 ≤ p ∧ p ≤ 240) (hq : -240 ≤ q ∧ q ≤ 240) (hx : -240 ≤ x ∧ x ≤ 240) (hl : -10 ≤ l2) (hh2 : h2 ≤ 10) : ∀ (m : Nat) (v : Int), v + m = h2 + 1 → l2 ≤ v → F (b2 (anyUp (swV h Y e p q x o) v m)) hc →
    Rn wC G 2 q_Si_standsOnWay 5 [some (.ref 43), some (.int (zI o)), some (.int (zI x)), some (.int (zI v)), none] [] hc (rI F) := by
  have h6 := ok.1
  have hw := ok.2.1
  have hh := ok.2.2.1
  have qe := ok.2.2.2.2.2.2 e he
  have qo := ok.2.2.2.2.2.2 o ho
  intro m
  induction m with
  | zero =>
    intro v hv _ K
    have hcn : hc.1 43 8 < zI v := by rw [S.2.2.2.2]; exact (zI_lt (by omega) (by omega)).mpr (by omega)
    exact w_Si_standsOnWay_5 _ _ _ ⟨fun _ => K, fun c => absurd hcn c⟩
  | succ m ih =>
    intro v hv hv2 K
    have hcn : ¬ hc.1 43 8 < zI v := by rw [S.2.2.2.2, zI_lt (by omega) (by omega)]; omega
    have s2 := spI_bd (i := v) (w := h) (x := Y o) (by omega) (by omega) (by omega)
    rw [anyUp] at K
    have go : swV h Y e p q x o v = false → Rn wC G 2 q_Si_standsOnWay 5 [some (.ref 43), some (.int (zI o)), some (.int (zI x)), some (.int (zI (v + 1))), none] [] hc (rI F) := by
      intro z
      rw [z, Bool.false_or] at K
      exact ih (v + 1) (by omega) (by omega) K
    have yes : swV h Y e p q x o v = true → F 1 hc := by
      intro z
      rw [z, Bool.true_or] at K
      exact K
    refine w_Si_standsOnWay_5 _ _ _ ⟨fun c => absurd c hcn, fun _ => ⟨vp_N (by omega) (by omega), ?_⟩⟩
    rw [zI_cN (by omega), (H.2.1 o ho).2.1, H.1.2.2.1, spot_c (by omega) (by omega), S.1.2.1, S.1.2.2.1, S.1.2.2.2, zI_sub, show zI v + 1 = zI (v + 1) from zI_add v 1, bt_c (by omega) (by omega), zI_mul, zI_mul]
    have m1 := mulbd (A := 240) (B := 240) hx hq
    have m2 := mulbd (A := 240) (B := 240) (a := spI v h (Y o) - Y e) (by omega) hp
    have cp : zI p = 0 ↔ p = 0 := by rw [show (0 : Int32) = zI 0 from by decide]; exact zI_eq (by omega) (by omega)
    have cm : zI (x * q) = zI ((spI v h (Y o) - Y e) * p) ↔ x * q = (spI v h (Y o) - Y e) * p := zI_eq (by omega) (by omega)
    rw [cp, cm]
    refine ⟨fun c => ⟨fun c2 => go ?_, fun c2 => yes ?_⟩, fun c => ⟨fun c2 => yes ?_, fun c2 => go ?_⟩⟩
    · unfold swV swP; rw [if_pos c]; exact (b2_0 _).mp c2
    · unfold swV swP; rw [if_pos c]
      cases z : btI (spI v h (Y o) - Y e) q with
      | true => rfl
      | false => exact absurd ((b2_0 _).mpr z) c2
    · unfold swV swP; rw [if_neg c]; exact decide_eq_true c2
    · unfold swV swP; rw [if_neg c]; exact decide_eq_false c2
end BLC

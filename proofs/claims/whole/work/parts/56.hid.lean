/-! isHidden, isSeen's parts (model) -/
def onI (p q x y : Int) : Bool := decide (p * y = q * x) && (decide (0 < p * x + q * y) && decide (p * x + q * y < p * p + q * q))
theorem on_m {p q x y : Int} (hp : -240 ≤ p ∧ p ≤ 240) (hq : -240 ≤ q ∧ q ≤ 240) (hx : -240 ≤ x ∧ x ≤ 240) (hy : -240 ≤ y ∧ y ≤ 240) : f_M_isOn (zI p) (zI q) (zI x) (zI y) = b2 (onI p q x y) := by
  have m1 := mulbd (A := 240) (B := 240) hp hy
  have m2 := mulbd (A := 240) (B := 240) hq hx
  have m3 := mulbd (A := 240) (B := 240) hp hx
  have m4 := mulbd (A := 240) (B := 240) hq hy
  have m5 := mulbd (A := 240) (B := 240) hp hp
  have m6 := mulbd (A := 240) (B := 240) hq hq
  unfold f_M_isOn onI
  simp only [zI_mul, zI_add]
  have c1 : (zI (p * y) = zI (q * x)) ↔ p * y = q * x := zI_eq (by omega) (by omega)
  have c2 : (zI (p * x + q * y) ≤ 0) ↔ p * x + q * y ≤ 0 := by rw [show (0 : Int32) = zI 0 from by decide]; exact zI_le (by omega) (by omega)
  have c3 : (zI (p * p + q * q) ≤ zI (p * x + q * y)) ↔ p * p + q * q ≤ p * x + q * y := zI_le (by omega) (by omega)
  simp only [c1, c2, c3]
  generalize p * y = a1 at *
  generalize q * x = a2 at *
  generalize p * x + q * y = a3 at *
  generalize p * p + q * q = a4 at *
  unfold b2
  by_cases z1 : a1 = a2
  · by_cases z2 : a3 ≤ 0
    · rw [if_pos z1, if_pos z2, if_neg (by simp; omega)]
    · by_cases z3 : a4 ≤ a3
      · rw [if_pos z1, if_neg z2, if_pos z3, if_neg (by simp; omega)]
      · rw [if_pos z1, if_neg z2, if_neg z3, if_pos (by simp; omega)]
  · rw [if_neg z1, if_neg (by simp [z1])]
section HID
variable {nb w h g t : Nat} {X Y A : Nat → Nat} {hm : rx_Hp}
def hdC (w h g : Nat) (X Y : Nat → Nat) (e : Nat) (p q : Int) (o : Nat) (u v : Int) : Bool := thI g u v && onI p q (spI u w (X o) - X e) (spI v h (Y o) - Y e)
theorem hid_v {G : rx_Gh} {F : Int32 → rx_Hp → Prop} (ok : HOk nb w h g t X Y A) (H : HM nb w h g t X Y A hm) {e o : Nat} (he : e < nb) (ho : o < nb) {p q : Int} (hp : -240 ≤ p ∧ p ≤ 240) (hq : -240 ≤ q ∧ q ≤ 240) (x1 x2 x3 : Int32) {u : Int} (hu : -10 ≤ u ∧ u ≤ 10) : ∀ (m : Nat) (v : Int), v + m = 11 → -10 ≤ v → (anyUp (hdC w h g X Y e p q o u) v m = true → F 1 hm) → (anyUp (hdC w h g X Y e p q o u) v m = false → Rn wM G 4 q_M_isHidden 48 [some (.ref 0), some (.int x1), none, none, some (.int (zI e)), some (.int (zI p)), some (.int (zI q)), some (.int (zI o)), some (.int (zI u + 1)), none] [] hm (rI F)) →
    Rn wM G 4 q_M_isHidden 72 [some (.ref 0), some (.int x1), none, none, some (.int (zI e)), some (.int (zI p)), some (.int (zI q)), some (.int (zI o)), some (.int (zI u)), some (.int (zI v))] [] hm (rI F) := by
  have h6 := ok.1
  have hw := ok.2.1
  have hh := ok.2.2.1
  have qe := ok.2.2.2.2.2.2 e he
  have qo := ok.2.2.2.2.2.2 o ho
  intro m
  induction m with
  | zero =>
    intro v hv _ _ K2
    have hc : 10 < zI v := by rw [show (10 : Int32) = zI 10 from by decide, zI_lt (by omega) (by omega)]; omega
    exact w_M_isHidden_72 _ _ _ _ _ _ _ ⟨fun _ => K2 rfl, fun c => absurd hc c⟩
  | succ m ih =>
    intro v hv hv2 K1 K2
    have hc : ¬ 10 < zI v := by rw [show (10 : Int32) = zI 10 from by decide, zI_lt (by omega) (by omega)]; omega
    rw [anyUp] at K1 K2
    have s1 := spI_bd (i := u) (w := w) (x := X o) hu (by omega) (by omega)
    have s2 := spI_bd (i := v) (w := h) (x := Y o) (by omega) (by omega) (by omega)
    have go : hdC w h g X Y e p q o u v = false → Rn wM G 4 q_M_isHidden 72 [some (.ref 0), some (.int x1), none, none, some (.int (zI e)), some (.int (zI p)), some (.int (zI q)), some (.int (zI o)), some (.int (zI u)), some (.int (zI (v + 1)))] [] hm (rI F) := by
      intro z
      rw [z, Bool.false_or] at K1 K2
      exact ih (v + 1) (by omega) (by omega) K1 K2
    refine w_M_isHidden_72 _ _ _ _ _ _ _ ⟨fun c => absurd c hc, fun _ => ?_⟩
    rw [there_m ok.2.2.2.1 hu.1 hu.2 (by omega) (by omega) H.1.2.2.2.1, show zI v + 1 = zI (v + 1) from zI_add v 1]
    refine ⟨fun c => go (by unfold hdC; rw [(b2_0 _).mp c]; rfl), fun c => ⟨vp_N (by omega) (by omega), vp_N (by omega) (by omega), vp_N (by omega) (by omega), ?_⟩⟩
    unfold f_M_imageX f_M_imageY
    rw [zI_cN (by omega), zI_cN (by omega), (H.2 o ho).1, (H.2 o ho).2.1, (H.2 e he).1, (H.2 e he).2.1, H.1.2.1, H.1.2.2.1, spot_m hu.1 hu.2, spot_m (by omega) (by omega), zI_sub, zI_sub, on_m hp hq (by omega) (by omega)]
    refine ⟨fun c2 => go (by unfold hdC; rw [(b2_0 _).mp c2, Bool.and_false]), fun c2 => K1 ?_⟩
    unfold hdC
    rw [b2_t c, b2_t c2]; rfl
end HID

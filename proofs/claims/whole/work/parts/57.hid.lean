/-! isHidden (model): all loops -/
section HIE
variable {nb w h g t : Nat} {X Y A : Nat → Nat} {hm : rx_Hp}
theorem hid_u {G : rx_Gh} {F : Int32 → rx_Hp → Prop} (ok : HOk nb w h g t X Y A) (H : HM nb w h g t X Y A hm) {b e o : Nat} (hb : b < nb) (he : e < nb) (ho : o < nb) (hob : o ≠ b) (hoe : o ≠ e) {p q : Int} (hp : -240 ≤ p ∧ p ≤ 240) (hq : -240 ≤ q ∧ q ≤ 240) : ∀ (m : Nat) (u : Int), u + m = 11 → -10 ≤ u → (anyUp (fun u => anyUp (hdC w h g X Y e p q o u) (-10) 21) u m = true → F 1 hm) → (anyUp (fun u => anyUp (hdC w h g X Y e p q o u) (-10) 21) u m = false → Rn wM G 4 q_M_isHidden 35 [some (.ref 0), some (.int (zI b)), none, none, some (.int (zI e)), some (.int (zI p)), some (.int (zI q)), some (.int (zI o + 1)), none, none] [] hm (rI F)) →
    Rn wM G 4 q_M_isHidden 48 [some (.ref 0), some (.int (zI b)), none, none, some (.int (zI e)), some (.int (zI p)), some (.int (zI q)), some (.int (zI o)), some (.int (zI u)), none] [] hm (rI F) := by
  have h6 := ok.1
  have c1 : ¬ zI (o : Int) = zI (b : Int) := by rw [zI_eq (by omega) (by omega)]; omega
  have c2 : ¬ zI (o : Int) = zI (e : Int) := by rw [zI_eq (by omega) (by omega)]; omega
  intro m
  induction m with
  | zero =>
    intro u hu _ _ K2
    have hc : 10 < zI u := by rw [show (10 : Int32) = zI 10 from by decide, zI_lt (by omega) (by omega)]; omega
    exact w_M_isHidden_48 _ _ _ _ _ _ ⟨fun _ => K2 rfl, fun c => absurd hc c⟩
  | succ m ih =>
    intro u hu hu2 K1 K2
    have hc : ¬ 10 < zI u := by rw [show (10 : Int32) = zI 10 from by decide, zI_lt (by omega) (by omega)]; omega
    rw [anyUp] at K1 K2
    refine w_M_isHidden_48 _ _ _ _ _ _ ⟨fun c => absurd c hc, fun _ => ⟨fun c => absurd c c1, fun _ => ⟨fun c => absurd c c2, fun _ => ?_⟩⟩⟩
    refine hid_v (u := u) ok H he ho hp hq _ 0 0 (by omega) 21 (-10) (by omega) (by omega) (fun z => K1 (by rw [z, Bool.true_or])) (fun z => ?_)
    rw [z, Bool.false_or] at K1 K2
    rw [show zI u + 1 = zI (u + 1) from zI_add u 1]
    exact ih (u + 1) (by omega) (by omega) K1 K2
/-- a third body o hides it -/
def hdO (w h g : Nat) (X Y : Nat → Nat) (b e : Nat) (p q : Int) (o : Nat) : Bool := !decide (o = b) && (!decide (o = e) && anyUp (fun u => anyUp (hdC w h g X Y e p q o u) (-10) 21) (-10) 21)
def hdA (w h g : Nat) (X Y : Nat → Nat) (b e : Nat) (p q : Int) : Nat → Nat → Bool
  | 0, _ => false
  | m + 1, o => hdO w h g X Y b e p q o || hdA w h g X Y b e p q m (o + 1)
theorem hid_o {G : rx_Gh} {F : Int32 → rx_Hp → Prop} (ok : HOk nb w h g t X Y A) (H : HM nb w h g t X Y A hm) {b e : Nat} (hb : b < nb) (he : e < nb) {p q : Int} (hp : -240 ≤ p ∧ p ≤ 240) (hq : -240 ≤ q ∧ q ≤ 240) : ∀ (m o : Nat), o + m = nb → F (b2 (hdA w h g X Y b e p q m o)) hm →
    Rn wM G 4 q_M_isHidden 35 [some (.ref 0), some (.int (zI b)), none, none, some (.int (zI e)), some (.int (zI p)), some (.int (zI q)), some (.int (zI o)), none, none] [] hm (rI F) := by
  have h6 := ok.1
  intro m
  induction m with
  | zero =>
    intro o ho K
    have hcn : hm.1 0 23 ≤ zI o := by rw [H.1.1]; exact (zI_le (by omega) (by omega)).mpr (by omega)
    exact w_M_isHidden_35 _ _ _ _ _ ⟨fun _ => K, fun c => absurd hcn c⟩
  | succ m ih =>
    intro o ho K
    have ho' : o < nb := by omega
    have hcn : ¬ hm.1 0 23 ≤ zI o := by rw [H.1.1, zI_le (by omega) (by omega)]; omega
    have eo : zI (o : Int) + 1 = zI ((o + 1 : Nat) : Int) := zI_add o 1
    have c1 : zI (o : Int) = zI (b : Int) ↔ o = b := by rw [zI_eq (by omega) (by omega)]; omega
    have c2 : zI (o : Int) = zI (e : Int) ↔ o = e := by rw [zI_eq (by omega) (by omega)]; omega
    rw [hdA] at K
    have go : hdO w h g X Y b e p q o = false → Rn wM G 4 q_M_isHidden 35 [some (.ref 0), some (.int (zI b)), none, none, some (.int (zI e)), some (.int (zI p)), some (.int (zI q)), some (.int (zI (o : Int) + 1)), none, none] [] hm (rI F) := by
      intro z
      rw [z, Bool.false_or] at K
      rw [eo]
      exact ih (o + 1) (by omega) K
    refine w_M_isHidden_35 _ _ _ _ _ ⟨fun c => absurd c hcn, fun _ => ?_⟩
    by_cases z1 : o = b
    · refine w_M_isHidden_48 _ _ _ _ _ _ ⟨fun c => absurd c (by decide), fun _ => ⟨fun _ => go (by unfold hdO; simp [z1]), fun c => absurd (c1.mpr z1) c⟩⟩
    · by_cases z2 : o = e
      · refine w_M_isHidden_48 _ _ _ _ _ _ ⟨fun c => absurd c (by decide), fun _ => ⟨fun c => absurd (c1.mp c) z1, fun _ => ⟨fun _ => go (by unfold hdO; simp [z2]), fun c => absurd (c2.mpr z2) c⟩⟩⟩
      · have eO : hdO w h g X Y b e p q o = anyUp (fun u => anyUp (hdC w h g X Y e p q o u) (-10) 21) (-10) 21 := by unfold hdO; simp [z1, z2]
        refine hid_u ok H hb he ho' z1 z2 hp hq 21 (-10) (by omega) (by omega) (fun z => ?_) (fun z => go (by rw [eO]; exact z))
        rw [eO, z, Bool.true_or] at K
        exact K
theorem hid_m {G : rx_Gh} {F : Int32 → rx_Hp → Prop} (ok : HOk nb w h g t X Y A) (H : HM nb w h g t X Y A hm) {b e : Nat} (hb : b < nb) (he : e < nb) {i j : Int} (hi : -10 ≤ i ∧ i ≤ 10) (hj : -10 ≤ j ∧ j ≤ 10) (K : F (b2 (hdA w h g X Y b e (spI i w (X b) - X e) (spI j h (Y b) - Y e) nb 0)) hm) : Ev wM G 4 q_M_isHidden [.ref 0, .int (zI b), .int (zI i), .int (zI j), .int (zI e)] hm (rI F) := by
  have h6 := ok.1
  have hw := ok.2.1
  have hh := ok.2.2.1
  have qe := ok.2.2.2.2.2.2 e he
  have qb := ok.2.2.2.2.2.2 b hb
  have s1 := spI_bd (i := i) (w := w) (x := X b) hi (by omega) (by omega)
  have s2 := spI_bd (i := j) (w := h) (x := Y b) hj (by omega) (by omega)
  refine w_M_isHidden _ _ _ _ ⟨vp_N (by omega) (by omega), vp_N (by omega) (by omega), vp_N (by omega) (by omega), ?_⟩
  unfold f_M_imageX f_M_imageY
  rw [zI_cN (by omega), zI_cN (by omega), (H.2 b hb).1, (H.2 b hb).2.1, (H.2 e he).1, (H.2 e he).2.1, H.1.2.1, H.1.2.2.1, spot_m hi.1 hi.2, spot_m hj.1 hj.2, zI_sub, zI_sub]
  exact hid_o ok H hb he (by omega) (by omega) nb 0 (by omega) K
end HIE

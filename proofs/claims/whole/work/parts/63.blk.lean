/-! Sight.blocks (class), its loop -/
theorem bk_c {p q x : Int} (hp : -240 ≤ p ∧ p ≤ 240) (hq : -240 ≤ q ∧ q ≤ 240) (hx : -240 ≤ x ∧ x ≤ 240) : ((if zI p = 0 then ((if zI x = 0 then 1 else 0) : Int32) else ((if (f_Si_isBetween (zI x) (zI p)) = 0 then 0 else ((if (zI x * zI q - zI x * zI q / zI p * zI p) = 0 then 1 else 0) : Int32)) : Int32)) : Int32) = b2 (bkX p q x) := by
  have m1 := mulbd (A := 240) (B := 240) hx hq
  have cp : zI p = 0 ↔ p = 0 := by rw [show (0 : Int32) = zI 0 from by decide]; exact zI_eq (by omega) (by omega)
  have cx : zI x = 0 ↔ x = 0 := by rw [show (0 : Int32) = zI 0 from by decide]; exact zI_eq (by omega) (by omega)
  have ed : zI x * zI q - zI x * zI q / zI p * zI p = zI ((x * q).tmod p) := by
    rw [zI_mul, zI_div (by omega) (by omega), zI_mul, zI_sub, Int.tmod_def, Int.mul_comm p]
  have tb : ((x * q).tmod p).natAbs ≤ (x * q).natAbs := by rw [Int.natAbs_tmod]; exact Nat.mod_le _ _
  have ct : zI ((x * q).tmod p) = 0 ↔ (x * q).tmod p = 0 := by rw [show (0 : Int32) = zI 0 from by decide]; exact zI_eq (by omega) (by omega)
  rw [ed, bt_c (by omega) (by omega)]
  simp only [cp, cx, ct, b2_0]
  unfold bkX
  by_cases z0 : p = 0
  · rw [if_pos z0, if_pos z0]; unfold b2; by_cases z1 : x = 0 <;> simp [z1]
  · rw [if_neg z0, if_neg z0]
    cases z1 : btI x p with
    | false => rfl
    | true => unfold b2; by_cases z2 : (x * q).tmod p = 0 <;> simp [z2]
section BLD
variable {nb w h g t : Nat} {X Y A : Nat → Nat} {hc : rx_Hp}
def blU (w h : Nat) (X Y : Nat → Nat) (e : Nat) (p q l2 h2 : Int) (o : Nat) (u : Int) : Bool := bkX p q (spI u w (X o) - X e) && anyUp (swV h Y e p q (spI u w (X o) - X e) o) l2 (h2 + 1 - l2).toNat
theorem bl_u {G : rx_Gh} {F : Int32 → rx_Hp → Prop} (ok : HOk nb w h g t X Y A) (H : HC nb w h g t X Y A hc) {e o : Nat} (he : e < nb) (ho : o < nb) {p q l1 h1 l2 h2 : Int} (S : SG (X e) (Y e) p q l1 h1 l2 h2 hc) (hp : -240 ≤ p ∧ p ≤ 240) (hq : -240 ≤ q ∧ q ≤ 240) (hl1 : -10 ≤ l1) (hh1 : h1 ≤ 10) (hl : -10 ≤ l2) (hh2 : h2 ≤ 10) (hlh : l2 ≤ h2 + 1) : ∀ (m : Nat) (u : Int), u + m = h1 + 1 → l1 ≤ u → F (b2 (anyUp (blU w h X Y e p q l2 h2 o) u m)) hc →
    Rn wC G 3 q_Si_blocks 5 [some (.ref 43), some (.int (zI o)), some (.int (zI u)), none, none] [] hc (rI F) := by
  have h6 := ok.1
  have hw := ok.2.1
  have hh := ok.2.2.1
  have qe := ok.2.2.2.2.2.2 e he
  have qo := ok.2.2.2.2.2.2 o ho
  intro m
  induction m with
  | zero =>
    intro u hu _ K
    have hcn : hc.1 43 6 < zI u := by rw [S.2.2.1]; exact (zI_lt (by omega) (by omega)).mpr (by omega)
    exact w_Si_blocks_5 _ _ ⟨fun _ => K, fun c => absurd hcn c⟩
  | succ m ih =>
    intro u hu hu2 K
    have hcn : ¬ hc.1 43 6 < zI u := by rw [S.2.2.1, zI_lt (by omega) (by omega)]; omega
    have s2 := spI_bd (i := u) (w := w) (x := X o) (by omega) (by omega) (by omega)
    rw [anyUp] at K
    have go : blU w h X Y e p q l2 h2 o u = false → Rn wC G 3 q_Si_blocks 5 [some (.ref 43), some (.int (zI o)), some (.int (zI (u + 1))), none, none] [] hc (rI F) := by
      intro z
      rw [z, Bool.false_or] at K
      exact ih (u + 1) (by omega) (by omega) K
    have yes : blU w h X Y e p q l2 h2 o u = true → F 1 hc := by
      intro z
      rw [z, Bool.true_or] at K
      exact K
    refine w_Si_blocks_5 _ _ ⟨fun c => absurd c hcn, fun _ => ⟨vp_N (by omega) (by omega), ?_⟩⟩
    rw [zI_cN (by omega), (H.2.1 o ho).1, H.1.2.1, spot_c (by omega) (by omega), S.1.1, S.1.2.2.1, S.1.2.2.2, zI_sub, show zI u + 1 = zI (u + 1) from zI_add u 1, bk_c hp hq (by omega)]
    refine ⟨fun c => go ?_, fun c => w_Si_standsOnWay _ _ ?_⟩
    · unfold blU; rw [(b2_0 _).mp c, Bool.false_and]
    · rw [S.2.2.2.1]
      have z0 : bkX p q (spI u w (X o) - X e) = true := by
        cases z : bkX p q (spI u w (X o) - X e) with
        | true => rfl
        | false => exact absurd ((b2_0 _).mpr z) c
      refine st_j ok H he ho S hp hq (by omega) hl hh2 (h2 + 1 - l2).toNat l2 (by omega) (by omega) ⟨fun c2 => go ?_, fun c2 => yes ?_⟩
      · unfold blU; rw [z0, (b2_0 _).mp c2]; rfl
      · unfold blU
        rw [z0]
        cases z : anyUp (swV h Y e p q (spI u w (X o) - X e) o) l2 (h2 + 1 - l2).toNat with
        | true => rfl
        | false => exact absurd ((b2_0 _).mpr z) c2
def blO (w h : Nat) (X Y : Nat → Nat) (e : Nat) (p q l1 h1 l2 h2 : Int) (o : Nat) : Bool := anyUp (blU w h X Y e p q l2 h2 o) l1 (h1 + 1 - l1).toNat
theorem bl_c {G : rx_Gh} {F : Int32 → rx_Hp → Prop} (ok : HOk nb w h g t X Y A) (H : HC nb w h g t X Y A hc) {e o : Nat} (he : e < nb) (ho : o < nb) {p q l1 h1 l2 h2 : Int} (S : SG (X e) (Y e) p q l1 h1 l2 h2 hc) (hp : -240 ≤ p ∧ p ≤ 240) (hq : -240 ≤ q ∧ q ≤ 240) (hl1 : -10 ≤ l1) (hh1 : h1 ≤ 10) (hl : -10 ≤ l2) (hh2 : h2 ≤ 10) (hlh : l2 ≤ h2 + 1) (hlh1 : l1 ≤ h1 + 1) (K : F (b2 (blO w h X Y e p q l1 h1 l2 h2 o)) hc) : Ev wC G 3 q_Si_blocks [.ref 43, .int (zI o)] hc (rI F) := by
  refine w_Si_blocks _ ?_
  rw [S.2.1]
  exact bl_u ok H he ho S hp hq hl1 hh1 hl hh2 hlh (h1 + 1 - l1).toNat l1 (by omega) (by omega) K
end BLD

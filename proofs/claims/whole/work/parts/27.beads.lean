/-! beads, both sides -/
theorem mtn {a b : Prop} (h : a ↔ b) (n : ¬ a) : ¬ b := fun z => n (h.mpr z)
def bdC (k c : Int32) : Nat → Int32 → Int32 → Int32 → Int32
  | 0, _, _, _ => 0
  | n + 1, x3, x4, x5 => if k ≤ x5 then (x3 + x4) / 2 else bdC k c n (x3 * c) (if k ≤ 2 * x5 then x4 else x4 * c) (x5 + 1)
def bdM (k c : Int32) : Nat → Int32 → Int32 → Int32 → Int32
  | 0, _, _, _ => 0
  | n + 1, x3, x4, x5 => if k ≤ x5 then (x3 + x4) / 2 else bdM k c n (x3 * c) (x4 * (if x5 - x5 / 2 * 2 = 0 then c else 1)) (x5 + 1)
theorem bd_eq : ∀ (k : Fin 13) (c : Fin 5), bdC (zI (k : Nat)) (zI (c : Nat)) ((k : Nat) + 1) 1 1 0 = bdM (zI (k : Nat)) (zI (c : Nat)) ((k : Nat) + 1) 1 1 0 := by decide +kernel
theorem l_bd_c {G : rx_Gh} {hp : rx_Hp} {F : Int32 → rx_Hp → Prop} {K : Nat} (hK : K ≤ 12) (c : Int32) : ∀ (m j : Nat) (x3 x4 : Int32), j + m = K → F (bdC (zI K) c (m + 1) x3 x4 (zI j)) hp → Rn wC G 1 q_GR_beads 31 [none, some (.int (zI K)), some (.int c), some (.int x3), some (.int x4), some (.int (zI j))] [] hp (rI F) := by
  intro m
  induction m with
  | zero =>
    intro j x3 x4 hj H
    have hc : zI (K : Int) ≤ zI (j : Int) := (zI_le (by omega) (by omega)).mpr (by omega)
    rw [bdC, if_pos hc] at H
    exact w_GR_beads_31 _ _ _ _ _ ⟨fun _ => H, fun q => absurd hc q⟩
  | succ m ih =>
    intro j x3 x4 hj H
    have hc : ¬ zI (K : Int) ≤ zI (j : Int) := fun q => by have := (zI_le (by omega) (by omega)).mp q; omega
    rw [bdC, if_neg hc] at H
    refine w_GR_beads_31 _ _ _ _ _ ⟨fun q => absurd q hc, fun _ => ?_⟩
    have e : zI (j : Int) + 1 = zI ((j + 1 : Nat) : Int) := zI_add j 1
    rw [e] at H ⊢
    exact ih (j + 1) _ _ (by omega) H
theorem l_bd_m {G : rx_Gh} {hp : rx_Hp} {F : Int32 → rx_Hp → Prop} {K : Nat} (hK : K ≤ 12) (c : Int32) : ∀ (m j : Nat) (x3 x4 : Int32), j + m = K → F (bdM (zI K) c (m + 1) x3 x4 (zI j)) hp → Rn wM G 2 q_M_beads 29 [none, some (.int (zI K)), some (.int c), some (.int x3), some (.int x4), some (.int (zI j))] [] hp (rI F) := by
  intro m
  induction m with
  | zero =>
    intro j x3 x4 hj H
    have hc : zI (K : Int) ≤ zI (j : Int) := (zI_le (by omega) (by omega)).mpr (by omega)
    rw [bdM, if_pos hc] at H
    exact w_M_beads_29 _ _ _ _ _ ⟨fun _ => H, fun q => absurd hc q⟩
  | succ m ih =>
    intro j x3 x4 hj H
    have hc : ¬ zI (K : Int) ≤ zI (j : Int) := fun q => by have := (zI_le (by omega) (by omega)).mp q; omega
    rw [bdM, if_neg hc] at H
    refine w_M_beads_29 _ _ _ _ _ ⟨fun q => absurd q hc, fun _ => ?_⟩
    have e : zI (j : Int) + 1 = zI ((j + 1 : Nat) : Int) := zI_add j 1
    rw [e] at H ⊢
    exact ih (j + 1) _ _ (by omega) H
def A_beads (k c : Int32) : Int32 := if 1 ≤ k.toInt ∧ k.toInt ≤ 12 ∧ 1 ≤ c.toInt ∧ c.toInt ≤ 4 then bdC k c (k.toInt.toNat + 1) 1 1 0 else -1
theorem zI_N {x : Int32} (h : 0 ≤ x.toInt) : x = zI ((x.toInt.toNat : Nat) : Int) := by rw [show ((x.toInt.toNat : Nat) : Int) = x.toInt by omega, zI_self]
theorem a_beads_c {G : rx_Gh} {hp : rx_Hp} (k c : Int32) {F : Int32 → rx_Hp → Prop} (K : F (A_beads k c) hp) : Ev wC G 1 q_GR_beads [.ref 0, .int k, .int c] hp (rI F) := by
  have e1 := i_lt k 1 (by omega)
  have e2 := i_lt' k 12 (by omega)
  have e3 := i_lt c 1 (by omega)
  have e4 := i_le c 4 (by omega)
  refine w_GR_beads k c ⟨fun q => ?_, fun q1 => ⟨fun q => ?_, fun q2 => ⟨fun q => ?_, fun q3 => ⟨fun q4 => ?_, fun q => ?_⟩⟩⟩⟩
  · have := e1.mp q
    rw [A_beads, if_neg (by omega)] at K; exact K
  · have := e2.mp q
    rw [A_beads, if_neg (by omega)] at K; exact K
  · have := e3.mp q
    rw [A_beads, if_neg (by omega)] at K; exact K
  · have z1 := mtn e1 q1
    have z2 := mtn e2 q2
    have z3 := mtn e3 q3
    have z4 := e4.mp q4
    rw [A_beads, if_pos (by omega)] at K
    have hz := zI_N (x := k) (by omega)
    rw [hz]
    rw [hz, zI_back (by omega)] at K
    exact l_bd_c (by omega) c k.toInt.toNat 0 1 1 (by omega) K
  · have z4 := mtn e4 q
    rw [A_beads, if_neg (by omega)] at K; exact K
theorem a_beads_m {G : rx_Gh} {hp : rx_Hp} (k c : Int32) {F : Int32 → rx_Hp → Prop} (K : F (A_beads k c) hp) : Ev wM G 2 q_M_beads [.ref 0, .int k, .int c] hp (rI F) := by
  have e1 : f_M_in k 1 12 = b2 (decide (1 ≤ k.toInt) && decide (k.toInt ≤ 12)) := in_m k (lo := 1) (hi := 12) (by omega) (by omega)
  have e2 : f_M_in c 1 4 = b2 (decide (1 ≤ c.toInt) && decide (c.toInt ≤ 4)) := in_m c (lo := 1) (hi := 4) (by omega) (by omega)
  refine w_M_beads k c ?_
  rw [e1, e2]
  refine ⟨fun q => ?_, fun q1 => ⟨fun q => ?_, fun q2 => ?_⟩⟩
  · have := (b2_0 _).mp q
    simp only [Bool.and_eq_false_iff, decide_eq_false_iff_not] at this
    rw [A_beads, if_neg (by omega)] at K; exact K
  · have := (b2_0 _).mp q
    simp only [Bool.and_eq_false_iff, decide_eq_false_iff_not] at this
    rw [A_beads, if_neg (by omega)] at K; exact K
  · have z1 := b2_t q1
    have z2 := b2_t q2
    simp only [Bool.and_eq_true, decide_eq_true_eq] at z1 z2
    rw [A_beads, if_pos (by omega)] at K
    have hz := zI_N (x := k) (by omega)
    have hz2 := zI_N (x := c) (by omega)
    have he := bd_eq ⟨k.toInt.toNat, by omega⟩ ⟨c.toInt.toNat, by omega⟩
    simp only at he
    rw [← hz, ← hz2] at he
    rw [he] at K
    rw [hz]
    rw [hz, zI_back (by omega)] at K
    exact l_bd_m (by omega) c k.toInt.toNat 0 1 1 (by omega) K

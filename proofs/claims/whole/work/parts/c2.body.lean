/-! body: where it answers -/
def bodI (nb : Nat) (b k : Int32) : Bool := isB nb b && (decide (0 ≤ k.toInt) && decide (k.toInt ≤ 2))
def A_body (X Y A : Nat → Nat) (b k : Int32) : Int32 := if k = 0 then zI (X b.toInt.toNat) else if k = 1 then zI (Y b.toInt.toNat) else zI (A b.toInt.toNat)
section BDY
variable {nb w h g t : Nat} {X Y A : Nat → Nat} {hc hm : rx_Hp}
theorem a_body_c {G : rx_Gh} {F : Int32 → rx_Hp → Prop} (ok : HOk nb w h g t X Y A) (H : HC nb w h g t X Y A hc) (b k : Int32) (hb : bodI nb b k = true) (K : F (A_body X Y A b k) hc) : Ev wC G 3 q_GR_body [.ref 0, .int b, .int k] hc (rI F) := by
  have h6 := ok.1
  unfold bodI at hb
  rw [Bool.and_eq_true, Bool.and_eq_true] at hb
  obtain ⟨hb1, hb2, hb3⟩ := hb
  have d2 := of_decide_eq_true hb2
  have d3 := of_decide_eq_true hb3
  obtain ⟨b', k1, rfl⟩ := isB_of hb1
  have e1 := i_lt k 0 (by omega)
  have e2 := i_le k 2 (by omega)
  unfold A_body at K
  rw [zI_back (by omega)] at K
  refine w_GR_body _ _ ?_
  rw [has_c h6 H.1.1, hb1, zI_cN (by omega), (H.2.1 b' k1).1, (H.2.1 b' k1).2.1, (H.2.1 b' k1).2.2]
  refine ⟨fun c => absurd c (by decide), fun _ => ⟨fun c => absurd (e1.mp c) (by omega), fun _ => ⟨fun _ => ⟨fun c0 => ⟨vp_N (by omega) (by omega), ?_⟩, fun c0 => ⟨fun c1 => ⟨vp_N (by omega) (by omega), ?_⟩, fun c1 => ⟨vp_N (by omega) (by omega), ?_⟩⟩⟩, fun c => absurd (e2.mpr d3) c⟩⟩⟩
  · rw [if_pos c0] at K; exact K
  · rw [if_neg c0, if_pos c1] at K; exact K
  · rw [if_neg c0, if_neg c1] at K; exact K
theorem a_body_m {G : rx_Gh} {F : Int32 → rx_Hp → Prop} (ok : HOk nb w h g t X Y A) (H : HM nb w h g t X Y A hm) (b k : Int32) (K : ∀ h', Fr [(0, 0)] [] hm h' → h'.1 0 0 = (if bodI nb b k = true then 0 else 1) → F (if bodI nb b k = true then A_body X Y A b k else 0) h') : Ev wM G 3 q_M_body [.ref 0, .int b, .int k] hm (rI F) := by
  have h6 := ok.1
  have hk : f_M_in k 0 2 = b2 (decide (0 ≤ k.toInt) && decide (k.toInt ≤ 2)) := in_m k (lo := 0) (hi := 2) (by omega) (by omega)
  refine w_M_body _ _ ?_
  rw [isB_m h6 H.1.1, hk]
  have et : ((if b2 (isB nb b) = 0 then 1 else ((if b2 (decide (0 ≤ k.toInt) && decide (k.toInt ≤ 2)) = 0 then 1 else 0) : Int32)) : Int32) = (if bodI nb b k = true then 0 else 1) := by
    unfold bodI
    cases isB nb b <;> cases (decide (0 ≤ k.toInt) && decide (k.toInt ≤ 2)) <;> rfl
  rw [et]
  have fr : ∀ x, Fr [(0, 0)] [] hm (rx_pf hm 0 0 x) := fun x => Fr.rf.pf (by decide)
  by_cases hb : bodI nb b k = true
  · rw [if_pos hb]
    have K := fun h' f q => K h' f q
    rw [if_pos hb, if_pos hb] at K
    have hb' := hb
    unfold bodI at hb'
    rw [Bool.and_eq_true, Bool.and_eq_true] at hb'
    obtain ⟨b', k1, rfl⟩ := isB_of hb'.1
    have K := K (rx_pf hm 0 0 0) (fr 0) (pf_same _ _ _ _)
    unfold A_body at K
    rw [zI_back (by omega)] at K
    rw [zI_cN (by omega), (H.2 b' k1).1, (H.2 b' k1).2.1, (H.2 b' k1).2.2]
    refine ⟨fun c => absurd c (by decide), fun _ => ⟨fun c0 => ⟨vp_N (by omega) (by omega), ?_⟩, fun c0 => ⟨fun c1 => ⟨vp_N (by omega) (by omega), ?_⟩, fun c1 => ⟨vp_N (by omega) (by omega), ?_⟩⟩⟩⟩
    · rw [if_pos c0] at K; exact K
    · rw [if_neg c0, if_pos c1] at K; exact K
    · rw [if_neg c0, if_neg c1] at K; exact K
  · rw [if_neg hb]
    rw [if_neg hb, if_neg hb] at K
    exact ⟨fun _ => K (rx_pf hm 0 0 1) (fr 1) (pf_same _ _ _ _), fun c => absurd rfl c⟩
end BDY

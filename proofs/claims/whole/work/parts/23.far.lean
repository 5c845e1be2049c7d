/-! how far: both sides -/
theorem zI_cN {n : Nat} (h : n < 2147483648) : (zI (n : Int)).toNatClampNeg = n := by rw [zI_clamp (by omega) (by omega)]; omega
theorem vp_N {n N : Nat} (h : n < N) (hN : N < 2147483648) : vp_in (zI (n : Int)) N := vp_in_zI (by omega) (by omega) hN
def farI (w h : Nat) (X Y : Nat → Nat) (e b : Nat) (i j : Int) : Int := (spI i w (X b) - X e) * (spI i w (X b) - X e) + (spI j h (Y b) - Y e) * (spI j h (Y b) - Y e)
section FAR
variable {nb w h g t : Nat} {X Y A : Nat → Nat} {hc hm : rx_Hp}
theorem far_c (ok : HOk nb w h g t X Y A) (H : HC nb w h g t X Y A hc) {e b : Nat} (he : e < nb) (hb : b < nb) {i j : Int} (hi : -10 ≤ i ∧ i ≤ 10) (hj : -10 ≤ j ∧ j ≤ 10) : p_Ha_farFrom (zI e) (zI b) (zI i) (zI j) ∧ f_Ha_farFrom (zI e) (zI b) (zI i) (zI j) hc = zI (farI w h X Y e b i j) := by
  have h6 := ok.1
  refine ⟨⟨vp_N (by omega) (by omega), vp_N (by omega) (by omega)⟩, ?_⟩
  unfold f_Ha_farFrom farI
  rw [zI_cN (by omega), zI_cN (by omega), (H.2.1 b hb).1, (H.2.1 b hb).2.1, (H.2.1 e he).1, (H.2.1 e he).2.1, H.1.2.1, H.1.2.2.1, spot_c hi.1 hi.2, spot_c hj.1 hj.2]
  simp only [zI_sub, zI_mul, zI_add]
theorem far_m (ok : HOk nb w h g t X Y A) (H : HM nb w h g t X Y A hm) {e b : Nat} (he : e < nb) (hb : b < nb) {i j : Int} (hi : -10 ≤ i ∧ i ≤ 10) (hj : -10 ≤ j ∧ j ≤ 10) : p_M_farOf (zI b) (zI i) (zI j) (zI e) ∧ f_M_farOf (zI b) (zI i) (zI j) (zI e) hm = zI (farI w h X Y e b i j) := by
  have h6 := ok.1
  refine ⟨⟨vp_N (by omega) (by omega), vp_N (by omega) (by omega), vp_N (by omega) (by omega)⟩, ?_⟩
  unfold f_M_farOf f_M_imageX f_M_imageY farI
  rw [zI_cN (by omega), zI_cN (by omega), (H.2 b hb).1, (H.2 b hb).2.1, (H.2 e he).1, (H.2 e he).2.1, H.1.2.1, H.1.2.2.1, spot_m hi.1 hi.2, spot_m hj.1 hj.2]
  simp only [zI_sub, zI_mul, zI_add]
/-- the answer of far -/
def A_far (nb w h : Nat) (X Y : Nat → Nat) (a i j e : Int32) : Int32 := if isIm nb a i j && isB nb e then zI (farI w h X Y e.toInt.toNat a.toInt.toNat i.toInt j.toInt) else -1
theorem zI_back {n : Nat} (h : n < 2147483648) : (zI (n : Int)).toInt.toNat = n := by rw [zI_toInt (by omega) (by omega)]; omega
theorem a_far_c {G : rx_Gh} (ok : HOk nb w h g t X Y A) (H : HC nb w h g t X Y A hc) (a i j e : Int32) {F : Int32 → rx_Hp → Prop} (K : F (A_far nb w h X Y a i j e) hc) : Ev wC G 3 q_GR_far [.ref 0, .int a, .int i, .int j, .int e] hc (rI F) := by
  have h6 := ok.1
  refine w_GR_far a i j e ?_
  rw [hasI_c h6 H.1.1, has_c h6 H.1.1]
  unfold A_far at K
  refine ⟨fun c => ?_, fun c => ⟨fun c2 => ?_, fun c2 => ?_⟩⟩
  · rw [(b2_0 _).mp c] at K; exact K
  · rw [(b2_0 _).mp c2, Bool.and_false] at K; exact K
  · have q1 : isIm nb a i j = true := by cases q : isIm nb a i j with
      | true => rfl
      | false => exact absurd ((b2_0 _).mpr q) c
    have q2 : isB nb e = true := by cases q : isB nb e with
      | true => rfl
      | false => exact absurd ((b2_0 _).mpr q) c2
    obtain ⟨b, u, v, k1, rfl, rfl, rfl, k2, k3⟩ := isIm_of q1
    obtain ⟨e', k4, rfl⟩ := isB_of q2
    obtain ⟨p1, p2⟩ := far_c ok H k4 k1 k2 k3
    rw [q1, q2] at K
    refine ⟨p1, ?_⟩
    rw [p2]
    rw [zI_back (by omega), zI_back (by omega), zI_toInt (by omega) (by omega), zI_toInt (by omega) (by omega)] at K
    exact K
theorem a_far_m {G : rx_Gh} (ok : HOk nb w h g t X Y A) (H : HM nb w h g t X Y A hm) (a i j e : Int32) {F : Int32 → rx_Hp → Prop} (K : F (A_far nb w h X Y a i j e) hm) : Ev wM G 4 q_M_far [.ref 0, .int a, .int i, .int j, .int e] hm (rI F) := by
  have h6 := ok.1
  refine w_M_far a i j e ?_
  rw [isI_m h6 H.1.1, isB_m h6 H.1.1]
  unfold A_far at K
  refine ⟨fun c => ?_, fun c => ⟨fun c2 => ?_, fun c2 => ?_⟩⟩
  · rw [(b2_0 _).mp c] at K; exact K
  · rw [(b2_0 _).mp c2, Bool.and_false] at K; exact K
  · have q1 : isIm nb a i j = true := by cases q : isIm nb a i j with
      | true => rfl
      | false => exact absurd ((b2_0 _).mpr q) c
    have q2 : isB nb e = true := by cases q : isB nb e with
      | true => rfl
      | false => exact absurd ((b2_0 _).mpr q) c2
    obtain ⟨b, u, v, k1, rfl, rfl, rfl, k2, k3⟩ := isIm_of q1
    obtain ⟨e', k4, rfl⟩ := isB_of q2
    obtain ⟨p1, p2⟩ := far_m ok H k4 k1 k2 k3
    rw [q1, q2] at K
    refine ⟨p1, ?_⟩
    rw [p2]
    rw [zI_back (by omega), zI_back (by omega), zI_toInt (by omega) (by omega), zI_toInt (by omega) (by omega)] at K
    exact K
end FAR

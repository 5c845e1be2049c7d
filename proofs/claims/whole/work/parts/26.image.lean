/-! image, both sides -/
def glI (i j : Int) : Nat := i.natAbs + j.natAbs
theorem abs_z {i : Int} (h1 : -10 ≤ i) (h2 : i ≤ 10) : f_Mt_abs (zI i) = zI (i.natAbs : Int) := fin21 (P := fun i => f_Mt_abs (zI i) = zI (i.natAbs : Int)) (by decide +kernel) h1 h2
theorem gl_m {i j : Int} (hi : -10 ≤ i ∧ i ≤ 10) (hj : -10 ≤ j ∧ j ≤ 10) : f_M_glasses (zI i) (zI j) = zI (glI i j : Nat) := by
  unfold f_M_glasses glI
  rw [abs_z hi.1 hi.2, abs_z hj.1 hj.2, zI_add, Int.natCast_add]
theorem gl_c {i j : Int} (hi : -10 ≤ i ∧ i ≤ 10) (hj : -10 ≤ j ∧ j ≤ 10) : f_GR_glasses (zI i) (zI j) = zI (glI i j : Nat) := gl_m hi hj
theorem glI_le {i j : Int} (hi : -10 ≤ i ∧ i ≤ 10) (hj : -10 ≤ j ∧ j ≤ 10) : glI i j ≤ 20 := by unfold glI; omega
theorem odd_c : ∀ n : Fin 21, (zI (n : Nat) &&& 1 = 1) ↔ (n : Nat) % 2 = 1 := by decide +kernel
theorem odd_m : ∀ n : Fin 21, (zI (n : Nat) - zI (n : Nat) / 2 * 2 = 0) ↔ (n : Nat) % 2 = 0 := by decide +kernel
def A_image (nb w h g t : Nat) (X Y A : Nat → Nat) (a i j k : Int32) : Int32 :=
  if isIm nb a i j then
    if k = 0 then zI (spI i.toInt w (X a.toInt.toNat))
    else if k = 1 then zI (spI j.toInt h (Y a.toInt.toNat))
    else if k = 2 then (if glI i.toInt j.toInt % 2 = 0 then zI (A a.toInt.toNat) else 1 - zI (A a.toInt.toNat))
    else if k = 3 then zI (brI t (glI i.toInt j.toInt))
    else if k = 4 then b2 (thI g i.toInt j.toInt)
    else -100000000
  else -100000000
section IMG
variable {nb w h g t : Nat} {X Y A : Nat → Nat} {hc hm : rx_Hp}
theorem bright_c (ok : HOk nb w h g t X Y A) (H : HC nb w h g t X Y A hc) (h0 : 0 < nb) {n : Nat} (hn : n ≤ 20) : p_Ha_brightAfter (zI n) ∧ f_Ha_brightAfter (zI n) hc = zI (brI t n) := by
  have e21 : (21 : Int32) = zI 21 := by decide
  have e0 : (0 : Int32) = zI 0 := by decide
  have c1 : ¬ zI (n : Int) < 0 := by rw [e0, zI_lt (by omega) (by omega)]; omega
  have c2 : ¬ 21 ≤ zI (n : Int) := by rw [e21, zI_le (by omega) (by omega)]; omega
  refine ⟨fun _ _ => vp_N (by omega) (by omega), ?_⟩
  unfold f_Ha_brightAfter
  rw [if_neg c1, if_neg c2, zI_cN (by omega)]
  exact H.2.2 h0 n hn
theorem a_image_c {G : rx_Gh} (ok : HOk nb w h g t X Y A) (H : HC nb w h g t X Y A hc) (a i j k : Int32) {F : Int32 → rx_Hp → Prop} (K : F (A_image nb w h g t X Y A a i j k) hc) : Ev wC G 4 q_GR_image [.ref 0, .int a, .int i, .int j, .int k] hc (rI F) := by
  have h6 := ok.1
  refine w_GR_image a i j k ?_
  rw [hasI_c h6 H.1.1]
  unfold A_image at K
  refine ⟨fun c => ?_, fun c => ?_⟩
  · rw [(b2_0 _).mp c] at K; exact K
  · have q1 := b2_t c
    rw [q1, if_pos rfl] at K
    obtain ⟨b, u, v, k1, rfl, rfl, rfl, k2, k3⟩ := isIm_of q1
    rw [zI_back (by omega), zI_toInt (by omega) (by omega), zI_toInt (by omega) (by omega)] at K
    have hgl := glI_le k2 k3
    refine ⟨fun c => ?_, fun c => ?_, fun c => ?_, fun c => ?_, fun c => ?_, fun c0 c1 c2 c3 c4 => ?_⟩
    · rw [if_pos c] at K
      refine ⟨vp_N (by omega) (by omega), ?_⟩
      rw [H.1.2.1, zI_cN (by omega), (H.2.1 b k1).1, spot_c k2.1 k2.2]; exact K
    · rw [if_neg (rx_ne c (by decide)), if_pos c] at K
      refine ⟨vp_N (by omega) (by omega), ?_⟩
      rw [H.1.2.2.1, zI_cN (by omega), (H.2.1 b k1).2.1, spot_c k3.1 k3.2]; exact K
    · rw [if_neg (rx_ne c (by decide)), if_neg (rx_ne c (by decide)), if_pos c] at K
      have ho := odd_c ⟨glI u v, by omega⟩
      simp only at ho
      unfold f_GR_isTurned
      rw [gl_c k2 k3]
      by_cases hz : glI u v % 2 = 0
      · rw [if_pos hz] at K
        rw [if_neg (fun q => by have := ho.mp q; omega)]
        refine ⟨fun _ => ⟨vp_N (by omega) (by omega), ?_⟩, fun q => absurd rfl q⟩
        rw [zI_cN (by omega), (H.2.1 b k1).2.2]; exact K
      · rw [if_neg hz] at K
        rw [if_pos (ho.mpr (by omega))]
        refine ⟨fun q => absurd q (by decide), fun _ => ⟨vp_N (by omega) (by omega), ?_⟩⟩
        rw [zI_cN (by omega), (H.2.1 b k1).2.2]; exact K
    · rw [if_neg (rx_ne c (by decide)), if_neg (rx_ne c (by decide)), if_neg (rx_ne c (by decide)), if_pos c] at K
      obtain ⟨p1, p2⟩ := bright_c ok H (by omega) (n := glI u v) (by omega)
      rw [gl_c k2 k3]
      refine ⟨p1, ?_⟩
      rw [p2]; exact K
    · rw [if_neg (rx_ne c (by decide)), if_neg (rx_ne c (by decide)), if_neg (rx_ne c (by decide)), if_neg (rx_ne c (by decide)), if_pos c] at K
      rw [H.1.2.2.2.1, there_c ok.2.2.2.1 k2.1 k2.2 k3.1 k3.2]
      cases hz : thI g u v with
      | true => rw [hz] at K; exact K
      | false => rw [hz] at K; exact K
    · rw [if_neg c0, if_neg c1, if_neg c2, if_neg c3, if_neg c4] at K; exact K
theorem a_image_m {G : rx_Gh} (ok : HOk nb w h g t X Y A) (H : HM nb w h g t X Y A hm) (a i j k : Int32) {F : Int32 → rx_Hp → Prop} (K : F (A_image nb w h g t X Y A a i j k) hm) : Ev wM G 4 q_M_image [.ref 0, .int a, .int i, .int j, .int k] hm (rI F) := by
  have h6 := ok.1
  refine w_M_image a i j k ?_
  rw [isI_m h6 H.1.1]
  unfold A_image at K
  have hk : f_M_in k 0 4 = b2 (decide (0 ≤ k.toInt) && decide (k.toInt ≤ 4)) := in_m k (lo := 0) (hi := 4) (by omega) (by omega)
  rw [hk]
  have lit : ∀ z : Int, -2147483648 ≤ z ∧ z < 2147483648 → (k = zI z ↔ k.toInt = z) := fun z hz => ⟨fun q => by rw [q, zI_toInt hz.1 hz.2], fun q => by rw [← q, zI_self]⟩
  refine ⟨fun c => ?_, fun c => ⟨fun c9 => ?_, fun c9 => ?_⟩⟩
  · rw [(b2_0 _).mp c] at K; exact K
  · have q1 := b2_t c
    rw [q1, if_pos rfl] at K
    have q2 := (b2_0 _).mp c9
    simp only [Bool.and_eq_false_iff, decide_eq_false_iff_not] at q2
    rw [if_neg (fun q => by have := (lit 0 (by omega)).mp q; omega), if_neg (fun q => by have := (lit 1 (by omega)).mp q; omega), if_neg (fun q => by have := (lit 2 (by omega)).mp q; omega), if_neg (fun q => by have := (lit 3 (by omega)).mp q; omega), if_neg (fun q => by have := (lit 4 (by omega)).mp q; omega)] at K
    exact K
  · have q1 := b2_t c
    rw [q1, if_pos rfl] at K
    have q2 := b2_t c9
    simp only [Bool.and_eq_true, decide_eq_true_eq] at q2
    obtain ⟨b, u, v, k1, rfl, rfl, rfl, k2, k3⟩ := isIm_of q1
    rw [zI_back (by omega), zI_toInt (by omega) (by omega), zI_toInt (by omega) (by omega)] at K
    have hgl := glI_le k2 k3
    refine ⟨fun c => ?_, fun c => ?_, fun c => ?_, fun c => ?_, fun c0 c1 c2 c3 => ?_⟩
    · rw [if_pos c] at K
      refine ⟨vp_N (by omega) (by omega), ?_⟩
      unfold f_M_imageX
      rw [H.1.2.1, zI_cN (by omega), (H.2 b k1).1, spot_m k2.1 k2.2]; exact K
    · rw [if_neg (rx_ne c (by decide)), if_pos c] at K
      refine ⟨vp_N (by omega) (by omega), ?_⟩
      unfold f_M_imageY
      rw [H.1.2.2.1, zI_cN (by omega), (H.2 b k1).2.1, spot_m k3.1 k3.2]; exact K
    · rw [if_neg (rx_ne c (by decide)), if_neg (rx_ne c (by decide)), if_pos c] at K
      have ho := odd_m ⟨glI u v, by omega⟩
      simp only at ho
      rw [gl_m k2 k3]
      refine ⟨fun q => ⟨vp_N (by omega) (by omega), ?_⟩, fun q => ⟨vp_N (by omega) (by omega), ?_⟩⟩
      · rw [if_pos (ho.mp q)] at K
        rw [zI_cN (by omega), (H.2 b k1).2.2]; exact K
      · rw [if_neg (fun z => q (ho.mpr z))] at K
        rw [zI_cN (by omega), (H.2 b k1).2.2]; exact K
    · rw [if_neg (rx_ne c (by decide)), if_neg (rx_ne c (by decide)), if_neg (rx_ne c (by decide)), if_pos c] at K
      have ht := ok.2.2.2.2.1
      rw [gl_m k2 k3]
      unfold p_M_bright f_M_bright
      rw [H.1.2.2.2.2, zI_back (by omega), zI_back (by omega), zI_toInt (by omega) (by omega), zI_toInt (by omega) (by omega)]
      exact ⟨⟨by omega, by omega⟩, K⟩
    · have c4 : k = 4 := by
        have e0 := (lit 0 (by omega)); have e1 := (lit 1 (by omega)); have e2 := (lit 2 (by omega)); have e3 := (lit 3 (by omega))
        have n0 : k.toInt ≠ 0 := fun q => c0 (e0.mpr q)
        have n1 : k.toInt ≠ 1 := fun q => c1 (e1.mpr q)
        have n2 : k.toInt ≠ 2 := fun q => c2 (e2.mpr q)
        have n3 : k.toInt ≠ 3 := fun q => c3 (e3.mpr q)
        exact (lit 4 (by omega)).mpr (by omega)
      rw [if_neg c0, if_neg c1, if_neg c2, if_neg c3, if_pos c4] at K
      rw [there_m ok.2.2.2.1 k2.1 k2.2 k3.1 k3.2 H.1.2.2.2.1]
      cases hz : thI g u v with
      | true => rw [hz] at K; exact K
      | false => rw [hz] at K; exact K
end IMG

/-! seen (class), the answer -/
section SEF
variable {nb w h g t : Nat} {X Y A : Nat → Nat} {hc : rx_Hp}
theorem a_seen_c {G : rx_Gh} (ok : HOk nb w h g t X Y A) (H : HC nb w h g t X Y A hc) (a i j e : Int32) {F : Int32 → rx_Hp → Prop} (K : ∀ h', Fr siF [] hc h' → F (A_seen nb w h g X Y a i j e) h') : Ev wC G 5 q_GR_seen [.ref 0, .int a, .int i, .int j, .int e] hc (rI F) := by
  have h6 := ok.1
  refine w_GR_seen a i j e ?_
  rw [hasI_c h6 H.1.1, has_c h6 H.1.1, H.1.2.2.2.1]
  unfold A_seen at K
  refine ⟨fun c => ?_, fun c => ⟨fun c2 => ?_, fun c2 => ?_⟩⟩
  · have K := K hc Fr.rf
    rw [(b2_0 _).mp c] at K; exact K
  · have K := K hc Fr.rf
    rw [(b2_0 _).mp c2, Bool.and_false] at K; exact K
  · have q1 : isIm nb a i j = true := by cases q : isIm nb a i j with
      | true => rfl
      | false => exact absurd ((b2_0 _).mpr q) c
    have q2 : isB nb e = true := by cases q : isB nb e with
      | true => rfl
      | false => exact absurd ((b2_0 _).mpr q) c2
    obtain ⟨b, u, v, k1, rfl, rfl, rfl, k2, k3⟩ := isIm_of q1
    obtain ⟨e', k4, rfl⟩ := isB_of q2
    refine se_c ok H ok.2.2.2.1 k1 k4 k2 k3 (fun h' fr => ?_)
    have K := K h' fr
    rw [q1, q2, zI_back (by omega), zI_back (by omega), zI_toInt (by omega) (by omega), zI_toInt (by omega) (by omega)] at K
    revert K
    cases snA w h g X Y nb b e' u v <;> exact fun K => K
end SEF

/-! view (class), outer loop and answer -/
section VWE
variable {nb w h g t : Nat} {X Y A : Nat → Nat}
theorem vc_i {G : rx_Gh} {F : Int32 → rx_Hp → Prop} (ok : HOk nb w h g t X Y A) {g' : Nat} (hg : g' < 16) {b e n : Nat} (hb : b < nb) (he : e < nb) (hn : n ≤ 6) : ∀ (m : Nat) (i : Int) (s : Nat) (hc : rx_Hp), HC nb w h g t X Y A hc → i + m = n + 1 → -(n : Int) ≤ i → (∀ h', Fr siF [] hc h' → F (zI (s + sumUp (vwR w h g' X Y nb b e n) i m : Nat)) h') →
    Rn wC G 5 q_Si_seenImages 7 [some (.ref 43), some (.int (zI e)), some (.int (zI b)), some (.int (zI n)), some (.int (zI g')), some (.int (zI s)), some (.int (zI i)), none, none] [] hc (rI F) := by
  intro m
  induction m with
  | zero =>
    intro i s hc _ hi _ K
    have hcn : zI (n : Int) < zI i := by rw [zI_lt (by omega) (by omega)]; omega
    exact w_Si_seenImages_7 _ _ _ _ _ _ ⟨fun _ => K hc Fr.rf, fun c => absurd hcn c⟩
  | succ m ih =>
    intro i s hc H hi hi2 K
    have hcn : ¬ zI (n : Int) < zI i := by rw [zI_lt (by omega) (by omega)]; omega
    refine w_Si_seenImages_7 _ _ _ _ _ _ ⟨fun c => absurd c hcn, fun _ => ?_⟩
    rw [abs_z (by omega) (by omega), zI_sub, zI_neg, show (n : Int) - (i.natAbs : Int) = ((n - i.natAbs : Nat) : Int) from by omega]
    refine vc_j ok hg hb he hn (by omega) (by omega) (2 * (n - i.natAbs) + 1) _ s hc H (by omega) (by omega) (fun h' fr => ?_)
    rw [← vwR_eq (by omega)]
    refine ih (i + 1) _ h' (H.fr fr) (by omega) (by omega) (fun h'' f => ?_)
    have K := K h'' (Fr.tr fr f)
    rw [sumUp, ← Nat.add_assoc] at K
    exact K
theorem vc_c {G : rx_Gh} {F : Int32 → rx_Hp → Prop} {hc : rx_Hp} (ok : HOk nb w h g t X Y A) (H : HC nb w h g t X Y A hc) {g' : Nat} (hg : g' < 16) {b e n : Nat} (hb : b < nb) (he : e < nb) (hn : n ≤ 6) (K : ∀ h', Fr siF [] hc h' → F (zI (vwA w h g' X Y nb b e n)) h') : Ev wC G 5 q_Si_seenImages [.ref 43, .int (zI e), .int (zI b), .int (zI n), .int (zI g')] hc (rI F) := by
  refine w_Si_seenImages _ _ _ _ ?_
  rw [zI_neg]
  refine vc_i ok hg hb he hn (2 * n + 1) (-(n : Int)) 0 hc H (by omega) (by omega) (fun h' fr => ?_)
  rw [Nat.zero_add]
  exact K h' fr
theorem a_view_c {G : rx_Gh} {hc : rx_Hp} (ok : HOk nb w h g t X Y A) (H : HC nb w h g t X Y A hc) (a e n : Int32) {F : Int32 → rx_Hp → Prop} (K : ∀ h', Fr siF [] hc h' → F (A_view nb w h g X Y a e n) h') : Ev wC G 6 q_GR_view [.ref 0, .int a, .int e, .int n] hc (rI F) := by
  have h6 := ok.1
  refine w_GR_view a e n ?_
  rw [has_c h6 H.1.1, has_c h6 H.1.1, H.1.2.2.2.1]
  unfold A_view at K
  have c3 : n < 0 ↔ n.toInt < 0 := Int32.lt_iff_toInt_lt
  have c4 : n ≤ 6 ↔ n.toInt ≤ 6 := Int32.le_iff_toInt_le
  rw [c3, c4]
  refine ⟨fun c => ?_, fun c => ⟨fun c2 => ?_, fun c2 => ⟨fun d => ?_, fun d => ⟨fun d2 => ?_, fun d2 => ?_⟩⟩⟩⟩
  · have K := K hc Fr.rf
    rw [(b2_0 _).mp c] at K; exact K
  · have K := K hc Fr.rf
    rw [(b2_0 _).mp c2, Bool.and_false] at K; exact K
  · have K := K hc Fr.rf
    rw [decide_eq_false (show ¬ 0 ≤ n.toInt by omega), Bool.false_and, Bool.and_false] at K; exact K
  · have q1 : isB nb a = true := by cases q : isB nb a with
      | true => rfl
      | false => exact absurd ((b2_0 _).mpr q) c
    have q2 : isB nb e = true := by cases q : isB nb e with
      | true => rfl
      | false => exact absurd ((b2_0 _).mpr q) c2
    have q4 : isB 7 n = true := by
      unfold isB
      simp only [Bool.and_eq_true, decide_eq_true_eq]
      omega
    have q3 : (decide (0 ≤ n.toInt) && decide (n.toInt ≤ 6)) = true := by
      simp only [Bool.and_eq_true, decide_eq_true_eq]
      omega
    obtain ⟨b, k1, rfl⟩ := isB_of q1
    obtain ⟨e', k4, rfl⟩ := isB_of q2
    obtain ⟨n', k5, rfl⟩ := isB_of q4
    refine vc_c ok H ok.2.2.2.1 k1 k4 (by omega) (fun h' fr => ?_)
    have K := K h' fr
    rw [q1, q2, q3, zI_back (by omega), zI_back (by omega), zI_back (by omega)] at K
    exact K
  · have K := K hc Fr.rf
    rw [decide_eq_false (show ¬ n.toInt ≤ 6 by omega), Bool.and_false, Bool.and_false] at K; exact K
end VWE

/-! view (model) -/
section VWM
variable {nb w h g t : Nat} {X Y A : Nat → Nat} {hm : rx_Hp}
def vwR (w h g : Nat) (X Y : Nat → Nat) (nb b e n : Nat) (i : Int) : Nat := cntUp (vwC w h g X Y nb b e n i) (-(n : Int)) (2 * n + 1)
def vwA (w h g : Nat) (X Y : Nat → Nat) (nb b e n : Nat) : Nat := sumUp (vwR w h g X Y nb b e n) (-(n : Int)) (2 * n + 1)
theorem vw_i {G : rx_Gh} {F : Int32 → rx_Hp → Prop} (ok : HOk nb w h g t X Y A) (H : HM nb w h g t X Y A hm) {b e n : Nat} (hb : b < nb) (he : e < nb) (hn : n ≤ 6) : ∀ (m : Nat) (i : Int) (s : Nat), i + m = n + 1 → -6 ≤ i → F (zI (s + sumUp (vwR w h g X Y nb b e n) i m : Nat)) hm →
    Rn wM G 6 q_M_viewOf 7 [some (.ref 0), some (.int (zI b)), some (.int (zI e)), some (.int (zI n)), some (.int (zI s)), some (.int (zI i)), none] [] hm (rI F) := by
  intro m
  induction m with
  | zero =>
    intro i s hi _ K
    have hc : zI (n : Int) < zI i := by rw [zI_lt (by omega) (by omega)]; omega
    exact w_M_viewOf_7 _ _ _ _ _ ⟨fun _ => K, fun c => absurd hc c⟩
  | succ m ih =>
    intro i s hi hi2 K
    have hc : ¬ zI (n : Int) < zI i := by rw [zI_lt (by omega) (by omega)]; omega
    refine w_M_viewOf_7 _ _ _ _ _ ⟨fun c => absurd c hc, fun _ => ?_⟩
    rw [zI_neg]
    refine vw_j ok H hb he hn (by omega) (2 * n + 1) (-(n : Int)) s (by omega) (by omega) (ih (i + 1) _ (by omega) (by omega) ?_)
    rw [sumUp] at K
    rw [show s + cntUp (vwC w h g X Y nb b e n i) (-(n : Int)) (2 * n + 1) + sumUp (vwR w h g X Y nb b e n) (i + 1) m = s + (vwR w h g X Y nb b e n i + sumUp (vwR w h g X Y nb b e n) (i + 1) m) from by unfold vwR; omega]
    exact K
theorem vw_m {G : rx_Gh} {F : Int32 → rx_Hp → Prop} (ok : HOk nb w h g t X Y A) (H : HM nb w h g t X Y A hm) {b e n : Nat} (hb : b < nb) (he : e < nb) (hn : n ≤ 6) (K : F (zI (vwA w h g X Y nb b e n)) hm) : Ev wM G 6 q_M_viewOf [.ref 0, .int (zI b), .int (zI e), .int (zI n)] hm (rI F) := by
  refine w_M_viewOf _ _ _ ?_
  rw [zI_neg]
  refine vw_i ok H hb he hn (2 * n + 1) (-(n : Int)) 0 (by omega) (by omega) ?_
  rw [Nat.zero_add]
  exact K
def A_view (nb w h g : Nat) (X Y : Nat → Nat) (a e n : Int32) : Int32 := if isB nb a && isB nb e && (decide (0 ≤ n.toInt) && decide (n.toInt ≤ 6)) then zI (vwA w h g X Y nb a.toInt.toNat e.toInt.toNat n.toInt.toNat) else -1
theorem a_view_m {G : rx_Gh} (ok : HOk nb w h g t X Y A) (H : HM nb w h g t X Y A hm) (a e n : Int32) {F : Int32 → rx_Hp → Prop} (K : F (A_view nb w h g X Y a e n) hm) : Ev wM G 7 q_M_view [.ref 0, .int a, .int e, .int n] hm (rI F) := by
  have h6 := ok.1
  refine w_M_view a e n ?_
  rw [isB_m h6 H.1.1, isB_m h6 H.1.1, show f_M_in n 0 6 = f_M_in n (zI 0) (zI 6) from by rw [show zI 0 = 0 from by decide, show zI 6 = 6 from by decide], in_m n (by omega) (by omega)]
  unfold A_view at K
  refine ⟨fun c => ?_, fun c => ⟨fun c2 => ?_, fun c2 => ⟨fun c3 => ?_, fun c3 => ?_⟩⟩⟩
  · rw [(b2_0 _).mp c] at K; exact K
  · rw [(b2_0 _).mp c2, Bool.and_false] at K; exact K
  · rw [(b2_0 _).mp c3, Bool.and_false] at K; exact K
  · have q1 : isB nb a = true := by cases q : isB nb a with
      | true => rfl
      | false => exact absurd ((b2_0 _).mpr q) c
    have q2 : isB nb e = true := by cases q : isB nb e with
      | true => rfl
      | false => exact absurd ((b2_0 _).mpr q) c2
    have q3 : (decide (0 ≤ n.toInt) && decide (n.toInt ≤ 6)) = true := by cases q : (decide (0 ≤ n.toInt) && decide (n.toInt ≤ 6)) with
      | true => rfl
      | false => exact absurd ((b2_0 _).mpr q) c3
    obtain ⟨b, k1, rfl⟩ := isB_of q1
    obtain ⟨e', k4, rfl⟩ := isB_of q2
    have q4 : isB 7 n = true := by
      unfold isB
      simp only [Bool.and_eq_true, decide_eq_true_eq] at q3 ⊢
      omega
    obtain ⟨n', k5, rfl⟩ := isB_of q4
    rw [q1, q2, q3] at K
    refine vw_m ok H k1 k4 (by omega) ?_
    rw [zI_back (by omega), zI_back (by omega), zI_back (by omega)] at K
    exact K
end VWM

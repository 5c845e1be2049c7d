/-! seen, view (model) -/
section SEM
variable {nb w h g t : Nat} {X Y A : Nat → Nat} {hm : rx_Hp}
def snA (w h g : Nat) (X Y : Nat → Nat) (nb b e : Nat) (i j : Int) : Bool := thI g i j && !(hdA w h g X Y b e (spI i w (X b) - X e) (spI j h (Y b) - Y e) nb 0)
theorem sn_m {G : rx_Gh} {F : Int32 → rx_Hp → Prop} (ok : HOk nb w h g t X Y A) (H : HM nb w h g t X Y A hm) {b e : Nat} (hb : b < nb) (he : e < nb) {i j : Int} (hi : -10 ≤ i ∧ i ≤ 10) (hj : -10 ≤ j ∧ j ≤ 10) (K : F (b2 (snA w h g X Y nb b e i j)) hm) : Ev wM G 5 q_M_isSeen [.ref 0, .int (zI b), .int (zI i), .int (zI j), .int (zI e)] hm (rI F) := by
  refine w_M_isSeen _ _ _ _ ?_
  rw [there_m ok.2.2.2.1 hi.1 hi.2 hj.1 hj.2 H.1.2.2.2.1]
  unfold snA at K
  refine ⟨fun c => ?_, fun c => hid_m ok H hb he hi hj ?_⟩
  · rw [(b2_0 _).mp c] at K; exact K
  · have q : thI g i j = true := by
      cases q : thI g i j with
      | true => rfl
      | false => exact absurd ((b2_0 _).mpr q) c
    rw [q, Bool.true_and] at K
    revert K
    cases hdA w h g X Y b e (spI i w (X b) - X e) (spI j h (Y b) - Y e) nb 0 <;> exact fun K => K
def A_seen (nb w h g : Nat) (X Y : Nat → Nat) (a i j e : Int32) : Int32 := if isIm nb a i j && isB nb e then b2 (snA w h g X Y nb a.toInt.toNat e.toInt.toNat i.toInt j.toInt) else -1
theorem a_seen_m {G : rx_Gh} (ok : HOk nb w h g t X Y A) (H : HM nb w h g t X Y A hm) (a i j e : Int32) {F : Int32 → rx_Hp → Prop} (K : F (A_seen nb w h g X Y a i j e) hm) : Ev wM G 6 q_M_seen [.ref 0, .int a, .int i, .int j, .int e] hm (rI F) := by
  have h6 := ok.1
  refine w_M_seen a i j e ?_
  rw [isI_m h6 H.1.1, isB_m h6 H.1.1]
  unfold A_seen at K
  refine ⟨fun c => ?_, fun c => ⟨fun c2 => ?_, fun c2 => ?_⟩⟩
  · rw [(b2_0 _).mp c] at K; exact K
  · rw [(b2_0 _).mp c2, Bool.and_false] at K; exact K
  · have q1 : isIm nb a i j = true := by cases q : isIm nb a i j with
      | true => rfl
      | false => exact absurd ((b2_0 _).mpr q) c
    have q2 : isB nb e = true := by cases q : isB nb e with
      | true => rfl
      | false => exact absurd ((b2_0 _).mpr q) c2
    obtain ⟨b, u, v, k1, rfl, rfl, rfl, k2, k3⟩ := isIm_of q1
    obtain ⟨e', k4, rfl⟩ := isB_of q2
    rw [q1, q2] at K
    refine sn_m ok H k1 k4 k2 k3 ?_
    rw [zI_back (by omega), zI_back (by omega), zI_toInt (by omega) (by omega), zI_toInt (by omega) (by omega)] at K
    revert K
    cases snA w h g X Y nb b e' u v <;> exact fun K => K
def vwC (w h g : Nat) (X Y : Nat → Nat) (nb b e n : Nat) (i j : Int) : Bool := decide (glI i j ≤ n) && snA w h g X Y nb b e i j
theorem vw_j {G : rx_Gh} {F : Int32 → rx_Hp → Prop} (ok : HOk nb w h g t X Y A) (H : HM nb w h g t X Y A hm) {b e n : Nat} (hb : b < nb) (he : e < nb) (hn : n ≤ 6) {i : Int} (hi : -10 ≤ i ∧ i ≤ 10) : ∀ (m : Nat) (j : Int) (s : Nat), j + m = n + 1 → -6 ≤ j → Rn wM G 6 q_M_viewOf 7 [some (.ref 0), some (.int (zI b)), some (.int (zI e)), some (.int (zI n)), some (.int (zI (s + cntUp (vwC w h g X Y nb b e n i) j m : Nat))), some (.int (zI (i + 1))), none] [] hm (rI F) →
    Rn wM G 6 q_M_viewOf 17 [some (.ref 0), some (.int (zI b)), some (.int (zI e)), some (.int (zI n)), some (.int (zI s)), some (.int (zI i)), some (.int (zI j))] [] hm (rI F) := by
  intro m
  induction m with
  | zero =>
    intro j s hj _ K
    have hc : zI (n : Int) < zI j := by rw [zI_lt (by omega) (by omega)]; omega
    refine w_M_viewOf_17 _ _ _ _ _ _ ⟨fun _ => ?_, fun c => absurd hc c⟩
    rw [show zI i + 1 = zI (i + 1) from zI_add i 1]
    exact K
  | succ m ih =>
    intro j s hj hj2 K
    have hc : ¬ zI (n : Int) < zI j := by rw [zI_lt (by omega) (by omega)]; omega
    have gb : glI i j ≤ 100 := by unfold glI; omega
    have cg : zI (n : Int) < zI (glI i j : Nat) ↔ ¬ glI i j ≤ n := by rw [zI_lt (by omega) (by omega)]; omega
    refine w_M_viewOf_17 _ _ _ _ _ _ ⟨fun c => absurd c hc, fun _ => ?_⟩
    rw [gl_m hi (by omega), show zI j + 1 = zI (j + 1) from zI_add j 1]
    rw [cntUp] at K
    refine ⟨fun c => ?_, fun c => sn_m ok H hb he hi (by omega) ?_⟩
    · have z : vwC w h g X Y nb b e n i j = false := by unfold vwC; rw [decide_eq_false (cg.mp c)]; rfl
      rw [show zI (s : Int) + 0 = zI s from by simp]
      refine ih (j + 1) s (by omega) (by omega) ?_
      simpa [z] using K
    · have z : vwC w h g X Y nb b e n i j = snA w h g X Y nb b e i j := by unfold vwC; rw [decide_eq_true (by have := mt cg.mpr c; omega)]; rfl
      rw [z] at K
      revert K
      cases snA w h g X Y nb b e i j with
      | false =>
        intro K
        show Rn wM G 6 q_M_viewOf 17 [_, _, _, _, some (.int (zI s + 0)), _, _] _ _ _
        rw [show zI (s : Int) + 0 = zI s from by simp]
        refine ih (j + 1) s (by omega) (by omega) ?_
        simpa using K
      | true =>
        intro K
        show Rn wM G 6 q_M_viewOf 17 [_, _, _, _, some (.int (zI s + 1)), _, _] _ _ _
        rw [show zI (s : Int) + 1 = zI ((s + 1 : Nat) : Int) from zI_add s 1]
        refine ih (j + 1) (s + 1) (by omega) (by omega) ?_
        have e1 : s + 1 + cntUp (vwC w h g X Y nb b e n i) (j + 1) m = s + ((if true = true then 1 else 0) + cntUp (vwC w h g X Y nb b e n i) (j + 1) m) := by simp; omega
        rw [e1]; exact K
end SEM

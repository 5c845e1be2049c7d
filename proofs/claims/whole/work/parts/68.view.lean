/-! view (class), the inner loop -/
section VWC
variable {nb w h g t : Nat} {X Y A : Nat → Nat}
theorem vc_j {G : rx_Gh} {F : Int32 → rx_Hp → Prop} (ok : HOk nb w h g t X Y A) {g' : Nat} (hg : g' < 16) {b e n : Nat} (hb : b < nb) (he : e < nb) (hn : n ≤ 6) {i : Int} (hi : -10 ≤ i ∧ i ≤ 10) {r : Int} (hr : 0 ≤ r ∧ r ≤ 6) : ∀ (m : Nat) (j : Int) (s : Nat) (hc : rx_Hp), HC nb w h g t X Y A hc → j + m = r + 1 → -6 ≤ j → (∀ h', Fr siF [] hc h' → Rn wC G 5 q_Si_seenImages 7 [some (.ref 43), some (.int (zI e)), some (.int (zI b)), some (.int (zI n)), some (.int (zI g')), some (.int (zI (s + cntUp (snA w h g' X Y nb b e i) j m : Nat))), some (.int (zI (i + 1))), none, none] [] h' (rI F)) →
    Rn wC G 5 q_Si_seenImages 27 [some (.ref 43), some (.int (zI e)), some (.int (zI b)), some (.int (zI n)), some (.int (zI g')), some (.int (zI s)), some (.int (zI i)), some (.int (zI r)), some (.int (zI j))] [] hc (rI F) := by
  intro m
  induction m with
  | zero =>
    intro j s hc _ hj _ K
    have hcn : zI r < zI j := by rw [zI_lt (by omega) (by omega)]; omega
    refine w_Si_seenImages_27 _ _ _ _ _ _ _ _ ⟨fun _ => ?_, fun c => absurd hcn c⟩
    rw [show zI i + 1 = zI (i + 1) from zI_add i 1]
    exact K hc Fr.rf
  | succ m ih =>
    intro j s hc H hj hj2 K
    have hcn : ¬ zI r < zI j := by rw [zI_lt (by omega) (by omega)]; omega
    refine w_Si_seenImages_27 _ _ _ _ _ _ _ _ ⟨fun c => absurd c hcn, fun _ => se_c ok H hg hb he hi (by omega) (fun h' fr => ?_)⟩
    rw [show zI j + 1 = zI (j + 1) from zI_add j 1]
    have K := fun h'' f => K h'' (Fr.tr fr f)
    rw [cntUp] at K
    revert K
    cases snA w h g' X Y nb b e i j with
    | false =>
      intro K
      show Rn wC G 5 q_Si_seenImages 27 [_, _, _, _, _, some (.int (zI s)), _, _, _] _ _ _
      refine ih (j + 1) s h' (H.fr fr) (by omega) (by omega) (fun h'' f => ?_)
      have := K h'' f
      simpa using this
    | true =>
      intro K
      show Rn wC G 5 q_Si_seenImages 27 [_, _, _, _, _, some (.int (zI s + 1)), _, _, _] _ _ _
      rw [show zI (s : Int) + 1 = zI ((s + 1 : Nat) : Int) from zI_add s 1]
      refine ih (j + 1) (s + 1) h' (H.fr fr) (by omega) (by omega) (fun h'' f => ?_)
      have e1 : s + 1 + cntUp (snA w h g' X Y nb b e i) (j + 1) m = s + ((if true = true then 1 else 0) + cntUp (snA w h g' X Y nb b e i) (j + 1) m) := by simp; omega
      rw [e1]; exact K h'' f
end VWC

/-! seen (class) -/
section SEE
variable {nb w h g t : Nat} {X Y A : Nat → Nat} {hc : rx_Hp}
theorem se_c {G : rx_Gh} {F : Int32 → rx_Hp → Prop} (ok : HOk nb w h g t X Y A) (H : HC nb w h g t X Y A hc) {g' : Nat} (hg : g' < 16) {b e : Nat} (hb : b < nb) (he : e < nb) {i j : Int} (hi : -10 ≤ i ∧ i ≤ 10) (hj : -10 ≤ j ∧ j ≤ 10) (K : ∀ h', Fr siF [] hc h' → F (b2 (snA w h g' X Y nb b e i j)) h') : Ev wC G 4 q_Si_sees [.ref 43, .int (zI e), .int (zI b), .int (zI i), .int (zI j), .int (zI g')] hc (rI F) := by
  have h6 := ok.1
  have l1 := lohi (g' % 4)
  have l2 := lohi (g' / 4)
  refine w_Si_sees _ _ _ _ _ ?_
  rw [there_c hg hi.1 hi.2 hj.1 hj.2]
  refine ⟨fun c => ?_, fun c => ⟨vp_N (by omega) (by omega), vp_N (by omega) (by omega), ?_⟩⟩
  · have := K hc Fr.rf
    unfold snA at this
    rw [(b2_0 _).mp c] at this
    exact this
  · have q : thI g' i j = true := by
      cases q : thI g' i j with
      | true => rfl
      | false => exact absurd ((b2_0 _).mpr q) c
    have e1 := lowI_c ⟨g', hg⟩
    have e2 := highI_c ⟨g', hg⟩
    have e3 := lowJ_c ⟨g', hg⟩
    have e4 := highJ_c ⟨g', hg⟩
    simp only [] at e1 e2 e3 e4
    have z0 : (0 : Int32) = zI 0 := by decide
    have z1 : (1 : Int32) = zI 1 := by decide
    rw [zI_cN (by omega), zI_cN (by omega), (H.2.1 e he).1, (H.2.1 e he).2.1, (H.2.1 b hb).1, (H.2.1 b hb).2.1, H.1.2.1, H.1.2.2.1, spot_c hi.1 hi.2, spot_c hj.1 hj.2, zI_sub, zI_sub, e1, e2, e3, e4]
    generalize eh : rx_pf _ 43 8 _ = h'
    have fr : Fr siF [] hc h' := by
      rw [← eh]
      exact ((((((((Fr.rf.pf (by decide)).pf (by decide)).pf (by decide)).pf (by decide)).pf (by decide)).pf (by decide)).pf (by decide)).pf (by decide))
    have S : SG (X e) (Y e) (spI i w (X b) - X e) (spI j h (Y b) - Y e) (loX (loC (g' % 4)) i) (hiX (hiC (g' % 4)) i) (loX (loC (g' / 4)) j) (hiX (hiC (g' / 4)) j) h' := by
      rw [← eh]
      refine ⟨⟨?_, ?_, ?_, ?_⟩, ?_, ?_, ?_, ?_⟩
      · rw [pf_ne _ _ (by decide), pf_ne _ _ (by decide), pf_ne _ _ (by decide), pf_ne _ _ (by decide), pf_ne _ _ (by decide), pf_ne _ _ (by decide), pf_ne _ _ (by decide), pf_same]
      · rw [pf_ne _ _ (by decide), pf_ne _ _ (by decide), pf_ne _ _ (by decide), pf_ne _ _ (by decide), pf_ne _ _ (by decide), pf_ne _ _ (by decide), pf_same]
      · rw [pf_ne _ _ (by decide), pf_ne _ _ (by decide), pf_ne _ _ (by decide), pf_ne _ _ (by decide), pf_ne _ _ (by decide), pf_same]
      · rw [pf_ne _ _ (by decide), pf_ne _ _ (by decide), pf_ne _ _ (by decide), pf_ne _ _ (by decide), pf_same]
      · rw [pf_ne _ _ (by decide), pf_ne _ _ (by decide), pf_ne _ _ (by decide), pf_same, z0, z1, min_c (by omega) (by omega), zI_sub, max_c (by omega) (by omega)]; rfl
      · rw [pf_ne _ _ (by decide), pf_ne _ _ (by decide), pf_same, z0, z1, max_c (by omega) (by omega), zI_add, min_c (by omega) (by omega)]; rfl
      · rw [pf_ne _ _ (by decide), pf_same, z0, z1, min_c (by omega) (by omega), zI_sub, max_c (by omega) (by omega)]; rfl
      · rw [pf_same, z0, z1, max_c (by omega) (by omega), zI_add, min_c (by omega) (by omega)]; rfl
    have H' : HC nb w h g t X Y A h' := H.fr fr
    have K' := K h' fr
    unfold snA at K'
    rw [q, Bool.true_and] at K'
    exact se_o ok H' hb he hi hj S nb 0 (by omega) K'
end SEE

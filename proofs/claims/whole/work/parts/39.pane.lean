/-! pane: the two answers -/
section PNA
variable {nb w h g t : Nat} {X Y A : Nat → Nat} {hc hm : rx_Hp}
def A_pane (nb w h : Nat) (X Y : Nat → Nat) (e wl part : Int32) : Int32 := if isB nb e && wpI wl part then pV (pF (fRaw w h X Y wl.toInt.toNat e.toInt.toNat) e.toInt.toNat nb) part else -1
theorem a_pane_m {G : rx_Gh} (ok : HOk nb w h g t X Y A) (H : HM nb w h g t X Y A hm) (e wl part : Int32) {F : Int32 → rx_Hp → Prop} (K : ∀ hp, Fr [(0, 35), (0, 36)] [] hm hp → F (A_pane nb w h X Y e wl part) hp) : Ev wM G 42 q_M_pane [.ref 0, .int e, .int wl, .int part] hm (rI F) := by
  have h6 := ok.1
  have e1 : f_M_in wl 0 3 = b2 (decide (0 ≤ wl.toInt) && decide (wl.toInt ≤ 3)) := in_m wl (lo := 0) (hi := 3) (by omega) (by omega)
  have e2 : f_M_in part 0 1 = b2 (decide (0 ≤ part.toInt) && decide (part.toInt ≤ 1)) := in_m part (lo := 0) (hi := 1) (by omega) (by omega)
  refine w_M_pane e wl part ?_
  rw [isB_m h6 H.1.1, e1, e2]
  unfold A_pane at K
  refine ⟨fun c => ?_, fun c1 => ⟨fun c => ?_, fun c2 => ⟨fun c => ?_, fun c3 => ?_⟩⟩⟩
  · have K := K hm Fr.rf
    rw [(b2_0 _).mp c] at K; exact K
  · have K := K hm Fr.rf
    rw [if_neg (by unfold wpI; rw [(b2_0 _).mp c]; simp)] at K; exact K
  · have K := K hm Fr.rf
    rw [if_neg (by unfold wpI; rw [(b2_0 _).mp c]; simp)] at K; exact K
  · have z1 := b2_t c1
    have z4 : wpI wl part = true := by unfold wpI; rw [b2_t c2, b2_t c3]; rfl
    rw [z1, z4, Bool.and_self, if_pos rfl] at K
    obtain ⟨e', k1, rfl⟩ := isB_of z1
    obtain ⟨wl', k3, rfl⟩ := wpI_of z4
    rw [zI_back (by omega), zI_back (by omega)] at K
    exact pane_m ok H k1 k3 part K nb 0 hm (by omega) Fr.rf
theorem a_pane_c {G : rx_Gh} (ok : HOk nb w h g t X Y A) (H : HC nb w h g t X Y A hc) (e wl part : Int32) {F : Int32 → rx_Hp → Prop} (K : ∀ hp, Fr [(46, 1), (46, 2)] [] hc hp → F (A_pane nb w h X Y e wl part) hp) : Ev wC G 5 q_GR_pane [.ref 0, .int e, .int wl, .int part] hc (rI F) := by
  have h6 := ok.1
  refine w_GR_pane e wl part ?_
  rw [has_c h6 H.1.1, wp_c]
  unfold A_pane at K
  refine ⟨fun c => ?_, fun c1 => ⟨fun c => ?_, fun c2 => ?_⟩⟩
  · have K := K hc Fr.rf
    rw [(b2_0 _).mp c] at K; exact K
  · have K := K hc Fr.rf
    rw [(b2_0 _).mp c, Bool.and_false] at K; exact K
  · have z1 := b2_t c1
    have z4 := b2_t c2
    rw [z1, z4, Bool.and_self, if_pos rfl] at K
    obtain ⟨e', k1, rfl⟩ := isB_of z1
    obtain ⟨wl', k3, rfl⟩ := wpI_of z4
    rw [zI_back (by omega), zI_back (by omega)] at K
    have hE := pE_F (f := fRaw w h X Y wl' e') (f' := fPl w h X Y wl' e') (e := e') (nb := nb) (fun b _ => fRP ok) nb (Nat.le_refl _)
    rw [pV_E hE] at K
    refine w_Hg_span _ _ (pane_c ok H k1 k3 (fun hp hf => ⟨fun q => ⟨fun _ => ?_, fun z => absurd rfl z⟩, fun q q1 q2 => ⟨fun z => absurd z (by decide), fun _ => ?_⟩⟩) nb 0 hc (by omega) Fr.rf)
    · have K := K hp hf
      rw [pV, if_pos q] at K; exact K
    · have K := K hp hf
      by_cases hp0 : part = 0
      · rw [if_pos hp0, q1]
        rw [hp0] at K; exact K
      · rw [if_neg hp0, q2]
        unfold pV at K ⊢
        rw [if_neg q, if_neg hp0] at K
        rw [if_neg q, if_neg (by decide)]
        exact K
end PNA

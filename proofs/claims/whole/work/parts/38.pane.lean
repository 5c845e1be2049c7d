/-! pane: the loops -/
section PNE
variable {nb w h g t : Nat} {X Y A : Nat → Nat} {hc hm : rx_Hp}
def fRaw (w h : Nat) (X Y : Nat → Nat) (wl e b : Nat) : Nat × Nat := (hNum w h X Y wl e b, hDen w h X Y wl e b)
def fPl (w h : Nat) (X Y : Nat → Nat) (wl e b : Nat) : Nat × Nat := (hNum w h X Y wl e b / Nat.gcd (hNum w h X Y wl e b) (hDen w h X Y wl e b), hDen w h X Y wl e b / Nat.gcd (hNum w h X Y wl e b) (hDen w h X Y wl e b))
theorem fRaw_bd (ok : HOk nb w h g t X Y A) {e wl : Nat} (he : e < nb) : fBd (fRaw w h X Y wl e) nb := fun _ hb => num_bd ok he hb
theorem fPl_bd (ok : HOk nb w h g t X Y A) {e wl : Nat} (he : e < nb) : fBd (fPl w h X Y wl e) nb := fun b hb => by
  have := num_bd ok (wl := wl) he hb
  exact ⟨Nat.le_trans (Nat.div_le_self _ _) this.1, Nat.le_trans (Nat.div_le_self _ _) this.2⟩
theorem fRP (ok : HOk nb w h g t X Y A) {e wl b : Nat} : ∃ c : Nat, 0 < c ∧ (fRaw w h X Y wl e b).1 = c * (fPl w h X Y wl e b).1 ∧ (fRaw w h X Y wl e b).2 = c * (fPl w h X Y wl e b).2 := by
  unfold fRaw fPl
  generalize hNum w h X Y wl e b = n
  generalize hDen w h X Y wl e b = d
  by_cases q : 0 < Nat.gcd n d
  · exact ⟨Nat.gcd n d, q, (Nat.mul_div_cancel' (Nat.gcd_dvd_left n d)).symm, (Nat.mul_div_cancel' (Nat.gcd_dvd_right n d)).symm⟩
  · have z : Nat.gcd n d = 0 := by omega
    obtain ⟨z1, z2⟩ := Nat.gcd_eq_zero_iff.mp z
    subst z1; subst z2
    exact ⟨1, by omega, rfl, rfl⟩
theorem mul_lt40 {a b : Nat} (ha : a ≤ 800) (hb : b ≤ 40) : a * b ≤ 32000 := Nat.mul_le_mul ha hb
/-- one step, in the machine's numbers -/
theorem stP_z {n d ln ld tn td : Nat} (h1 : n ≤ 800) (h2 : d ≤ 40) (h3 : ln ≤ 800) (h4 : ld ≤ 40) (h5 : tn ≤ 800) (h6 : td ≤ 40) :
    (if zI ld = 0 then zI n else (if zI ln * zI d ≤ zI n * zI ld then zI ln else zI n)) = zI ((stP n d ln ld tn td).1 : Nat) ∧
    (if zI ld = 0 then zI d else (if zI ln * zI d ≤ zI n * zI ld then zI ld else zI d)) = zI ((stP n d ln ld tn td).2.1 : Nat) ∧
    (if zI td = 0 then zI n else (if zI n * zI td ≤ zI tn * zI d then zI tn else zI n)) = zI ((stP n d ln ld tn td).2.2.1 : Nat) ∧
    (if zI td = 0 then zI d else (if zI n * zI td ≤ zI tn * zI d then zI td else zI d)) = zI ((stP n d ln ld tn td).2.2.2 : Nat) := by
  have m1 := mul_lt40 h3 h2
  have m2 := mul_lt40 h1 h4
  have m3 := mul_lt40 h1 h6
  have m4 := mul_lt40 h5 h2
  have c1 : zI (ld : Int) = 0 ↔ ld = 0 := z0_iff (by omega)
  have c2 : zI (td : Int) = 0 ↔ td = 0 := z0_iff (by omega)
  have c3 : zI (ln : Int) * zI (d : Int) ≤ zI (n : Int) * zI (ld : Int) ↔ ln * d ≤ n * ld := by
    rw [zI_mul, zI_mul, ← Int.natCast_mul, ← Int.natCast_mul, zI_le (by omega) (by omega)]; omega
  have c4 : zI (n : Int) * zI (td : Int) ≤ zI (tn : Int) * zI (d : Int) ↔ n * td ≤ tn * d := by
    rw [zI_mul, zI_mul, ← Int.natCast_mul, ← Int.natCast_mul, zI_le (by omega) (by omega)]; omega
  simp only [c1, c2, c3, c4, stP]
  refine ⟨?_, ?_, ?_, ?_⟩ <;> (repeat' split) <;> rfl
theorem pane_m {G : rx_Gh} {F : Int32 → rx_Hp → Prop} (ok : HOk nb w h g t X Y A) (H : HM nb w h g t X Y A hm) {e wl : Nat} (he : e < nb) (hw : wl < 4) (part : Int32) (K : ∀ hp, Fr [(0, 35), (0, 36)] [] hm hp → F (pV (pF (fRaw w h X Y wl e) e nb) part) hp) :
    ∀ (m b : Nat) (hp : rx_Hp), b + m = nb → Fr [(0, 35), (0, 36)] [] hm hp → Rn wM G 42 q_M_pane 43 [some (.ref 0), some (.int (zI e)), some (.int (zI wl)), some (.int part), some (.int (zI ((pF (fRaw w h X Y wl e) e b).1 : Nat))), some (.int (zI ((pF (fRaw w h X Y wl e) e b).2.1 : Nat))), some (.int (zI ((pF (fRaw w h X Y wl e) e b).2.2.1 : Nat))), some (.int (zI ((pF (fRaw w h X Y wl e) e b).2.2.2 : Nat))), some (.int (zI b))] [] hp (rI F) := by
  have h6 := ok.1
  intro m
  induction m with
  | zero =>
    intro b hp hb hf
    have hb : b = nb := by omega
    subst hb
    have H' := H.fr hf
    have K := K hp hf
    obtain ⟨b1, b2, b3, b4⟩ := pF_bd (e := e) (fRaw_bd ok (wl := wl) he) b (Nat.le_refl _)
    obtain ⟨g1, g2⟩ := pG_F (f := fRaw w h X Y wl e) (e := e) b
    have hc : hp.1 0 23 ≤ zI b := by rw [H'.1.1]; exact (zI_le (by omega) (by omega)).mpr (Int.le_refl _)
    refine w_M_pane_43 _ _ _ _ _ _ _ _ ⟨fun _ => ?_, fun c => absurd hc c⟩
    generalize pF (fRaw w h X Y wl e) e b = s at *
    have c1 : zI (s.2.1 : Int) = 0 ↔ s.2.1 = 0 := z0_iff (by omega)
    unfold pV at K
    refine ⟨fun c => ?_, fun c => ?_⟩
    · rw [if_pos (c1.mp c)] at K; exact K
    · have q1 := mtn c1 c
      rw [if_neg q1] at K
      have q2 : ¬ s.2.2.2 = 0 := fun q => q1 (g1.mpr q)
      have m1 := mul_lt40 b3 b2
      have m2 := mul_lt40 b1 b4
      have m3 : s.2.2.2 * s.2.1 ≤ 40 * 40 := Nat.mul_le_mul b4 b2
      have m4 : 0 < s.2.2.2 * s.2.1 := Nat.mul_pos (by omega) (by omega)
      rw [zI_mul, zI_mul, zI_mul, ← Int.natCast_mul, ← Int.natCast_mul, ← Int.natCast_mul, zI_subN g2]
      obtain ⟨r1, r2⟩ := plain_m (n := s.2.2.1 * s.2.1 - s.1 * s.2.2.2) (d := s.2.2.2 * s.2.1) (by omega) (by omega) m4 part
      refine ⟨r1, ?_⟩
      rw [r2]
      exact K
  | succ m ih =>
    intro b hp hb hf
    have H' := H.fr hf
    have hc : ¬ hp.1 0 23 ≤ zI b := by rw [H'.1.1, zI_le (by omega) (by omega)]; omega
    have ce : zI (b : Int) = zI (e : Int) ↔ b = e := by rw [zI_eq (by omega) (by omega)]; omega
    have eb : zI (b : Int) + 1 = zI ((b + 1 : Nat) : Int) := zI_add b 1
    refine w_M_pane_43 _ _ _ _ _ _ _ _ ⟨fun c => absurd c hc, fun _ => ⟨fun c => ?_, fun c => ?_⟩⟩
    · have q := ce.mp c
      have := ih (b + 1) hp (by omega) hf
      rw [pF, pSt, if_pos (Or.inl q)] at this
      rw [eb]
      exact this
    · have q := mtn ce c
      obtain ⟨p1, p2, p3⟩ := lay_m ok H' he (b := b) (by omega) hw
      obtain ⟨n1, n2⟩ := num_bd ok (wl := wl) he (b := b) (by omega)
      have fr : Fr [(0, 35), (0, 36)] [] hm (rx_pf (rx_pf hp 0 35 (zI (hNum w h X Y wl e b : Nat))) 0 36 (zI (hDen w h X Y wl e b : Nat))) := (hf.pf (by decide)).pf (by decide)
      obtain ⟨b1, b2, b3, b4⟩ := pF_bd (e := e) (fRaw_bd ok (wl := wl) he) b (by omega)
      refine ⟨p1, ?_⟩
      rw [p2, p3, eb, pf_same, pf_ne _ _ (by decide), pf_same]
      have ih := ih (b + 1) _ (by omega) fr
      rw [pF, pSt] at ih
      refine ⟨fun c2 => ?_, fun c2 => ?_⟩
      · have := (b2_0 _).mp c2
        rw [if_pos (Or.inr (by simpa [fRaw] using this))] at ih
        exact ih
      · have := b2_t c2
        have hd : ¬ (fRaw w h X Y wl e b).2 = 0 := by
          have : 0 < hDen w h X Y wl e b := by simpa using this
          show ¬ hDen w h X Y wl e b = 0
          omega
        rw [if_neg (by rintro (z | z); exact q z; exact hd z)] at ih
        obtain ⟨s1, s2, s3, s4⟩ := stP_z n1 n2 b1 b2 b3 b4
        rw [s1, s2, s3, s4]
        exact ih
theorem pane_c {G : rx_Gh} {F : Int32 → rx_Hp → Prop} (ok : HOk nb w h g t X Y A) (H : HC nb w h g t X Y A hc) {e wl : Nat} (he : e < nb) (hw : wl < 4) (K : ∀ hp, Fr [(46, 1), (46, 2)] [] hc hp → ((pF (fPl w h X Y wl e) e nb).2.1 = 0 → F 0 hp) ∧ (¬ (pF (fPl w h X Y wl e) e nb).2.1 = 0 → hp.1 46 1 = pV (pF (fPl w h X Y wl e) e nb) 0 → hp.1 46 2 = pV (pF (fPl w h X Y wl e) e nb) 1 → F 1 hp)) :
    ∀ (m b : Nat) (hp : rx_Hp), b + m = nb → Fr [(46, 1), (46, 2)] [] hc hp → Rn wC G 4 q_Hg_span 14 [some (.ref 46), some (.int (zI e)), some (.int (zI wl)), some (.int (zI ((pF (fPl w h X Y wl e) e b).1 : Nat))), some (.int (zI ((pF (fPl w h X Y wl e) e b).2.1 : Nat))), some (.int (zI ((pF (fPl w h X Y wl e) e b).2.2.1 : Nat))), some (.int (zI ((pF (fPl w h X Y wl e) e b).2.2.2 : Nat))), some (.int (zI b))] [] hp (rI F) := by
  have h6 := ok.1
  intro m
  induction m with
  | zero =>
    intro b hp hb hf
    have hb : b = nb := by omega
    subst hb
    have H' := H.fr hf
    obtain ⟨b1, b2, b3, b4⟩ := pF_bd (e := e) (fPl_bd ok (wl := wl) he) b (Nat.le_refl _)
    obtain ⟨g1, g2⟩ := pG_F (f := fPl w h X Y wl e) (e := e) b
    have hc : hp.1 3 4 ≤ zI b := by rw [H'.1.1]; exact (zI_le (by omega) (by omega)).mpr (Int.le_refl _)
    refine w_Hg_span_14 _ _ _ _ _ _ _ ⟨fun _ => ?_, fun c => absurd hc c⟩
    generalize pF (fPl w h X Y wl e) e b = s at *
    have m1 := mul_lt40 b3 b2
    have m2 := mul_lt40 b1 b4
    have m3 : s.2.2.2 * s.2.1 ≤ 40 * 40 := Nat.mul_le_mul b4 b2
    rw [zI_mul, zI_mul, zI_mul, ← Int.natCast_mul, ← Int.natCast_mul, ← Int.natCast_mul, zI_subN g2]
    by_cases q1 : s.2.1 = 0
    · have e0 : s.2.2.2 * s.2.1 = 0 := by rw [q1, Nat.mul_zero]
      rw [e0]
      obtain ⟨r1, r2, r3⟩ := become_0 (hp := hp) (n := s.2.2.1 * s.2.1 - s.1 * s.2.2.2) (by omega)
      refine ⟨r1, ?_⟩
      rw [r2, r3]
      exact (K hp hf).1 q1
    · have q2 : ¬ s.2.2.2 = 0 := fun q => q1 (g1.mpr q)
      have m4 : 0 < s.2.2.2 * s.2.1 := Nat.mul_pos (by omega) (by omega)
      obtain ⟨r1, r2, r3⟩ := become_c (hp := hp) (n := s.2.2.1 * s.2.1 - s.1 * s.2.2.2) (d := s.2.2.2 * s.2.1) (by omega) (by omega) m4
      refine ⟨r1, ?_⟩
      rw [r2, r3]
      refine (K _ ((hf.pf (by decide)).pf (by decide))).2 q1 ?_ ?_
      · rw [pf_ne _ _ (by decide), pf_same, pV, if_neg q1, if_pos rfl]
      · rw [pf_same, pV, if_neg q1, if_neg (by decide)]
  | succ m ih =>
    intro b hp hb hf
    have H' := H.fr hf
    have hcn : ¬ hp.1 3 4 ≤ zI b := by rw [H'.1.1, zI_le (by omega) (by omega)]; omega
    have ce : zI (b : Int) = zI (e : Int) ↔ b = e := by rw [zI_eq (by omega) (by omega)]; omega
    have eb : zI (b : Int) + 1 = zI ((b + 1 : Nat) : Int) := zI_add b 1
    refine w_Hg_span_14 _ _ _ _ _ _ _ ⟨fun c => absurd c hcn, fun _ => ⟨fun c => ?_, fun c => ?_⟩⟩
    · have q := ce.mp c
      have := ih (b + 1) hp (by omega) hf
      rw [pF, pSt, if_pos (Or.inl q)] at this
      rw [eb]
      exact this
    · have q := mtn ce c
      obtain ⟨p1, p2, p3⟩ := place_c ok H' he (b := b) (by omega) hw
      obtain ⟨n1, n2⟩ := fPl_bd ok (wl := wl) he b (by omega)
      obtain ⟨b1, b2, b3, b4⟩ := pF_bd (e := e) (fPl_bd ok (wl := wl) he) b (by omega)
      refine ⟨p1, ?_⟩
      rw [p2, p3, eb]
      by_cases hd : 0 < hDen w h X Y wl e b
      · rw [if_pos hd]
        have fr := (hf.pf (k := 46) (j := 1) (x := zI ((fPl w h X Y wl e b).1 : Nat)) (by decide)).pf (k := 46) (j := 2) (x := zI ((fPl w h X Y wl e b).2 : Nat)) (by decide)
        have ih := ih (b + 1) _ (by omega) fr
        have hd2 : ¬ (fPl w h X Y wl e b).2 = 0 := by
          obtain ⟨c, hc, _, e2⟩ := fRP (e := e) (wl := wl) (b := b) ok
          intro z
          rw [z, Nat.mul_zero] at e2
          have e2 : hDen w h X Y wl e b = 0 := e2
          omega
        rw [pF, pSt, if_neg (by rintro (z | z); exact q z; exact hd2 z)] at ih
        obtain ⟨s1, s2, s3, s4⟩ := stP_z n1 n2 b1 b2 b3 b4
        refine ⟨fun z => absurd ((b2_0 _).mp z) (by simp; omega), fun _ => ?_⟩
        rw [pf_same, pf_ne _ _ (by decide), pf_same]
        show Rn wC G 4 q_Hg_span 14 [_, _, _, some (.int (if _ = 0 then zI ((fPl w h X Y wl e b).1 : Nat) else (if _ * zI ((fPl w h X Y wl e b).2 : Nat) ≤ _ then _ else zI ((fPl w h X Y wl e b).1 : Nat)))), _, _, _, _] _ _ _
        rw [← s1, ← s2, ← s3, ← s4] at ih
        exact ih
      · rw [if_neg hd]
        have ih := ih (b + 1) _ (by omega) hf
        have hd2 : (fPl w h X Y wl e b).2 = 0 := by
          show hDen w h X Y wl e b / _ = 0
          rw [show hDen w h X Y wl e b = 0 by omega, Nat.zero_div]
        rw [pF, pSt, if_pos (Or.inr hd2)] at ih
        exact ⟨fun _ => ih, fun z => absurd ((b2_0 _).mpr (by simpa using hd)) z⟩
end PNE

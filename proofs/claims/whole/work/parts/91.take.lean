/-! a hall that was read becomes the hall: both sides -/
section TKH
def hX (s : HS) : Nat → Nat := fun b => s.2.2.2 b 0
def hY (s : HS) : Nat → Nat := fun b => s.2.2.2 b 1
def hA (s : HS) : Nat → Nat := fun b => s.2.2.2 b 2
theorem hs_HOk {s : HS} (hs : okS s) (hw : whB s = true) : HOk s.2.1 (s.2.2.1 0) (s.2.2.1 1) (s.2.2.1 2) (s.2.2.1 3) (hX s) (hY s) (hA s) := by
  obtain ⟨o1, o2, o3⟩ := hs
  obtain ⟨w1, w2⟩ := whA.mp hw
  have r0 := o2 0 (by omega)
  have r1 := o2 1 (by omega)
  have r2 := o2 2 (by omega)
  have r3 := o2 3 (by omega)
  have e0 : lsL 0 = 1 ∧ lsM 0 = 20 ∧ lsL 1 = 1 ∧ lsM 1 = 20 ∧ lsM 2 = 15 ∧ lsM 3 = 99 ∧ lsM 6 = 1 := by decide
  refine ⟨o1, by omega, by omega, by omega, by omega, fun _ => ⟨by omega, by omega⟩, fun b hb => ⟨(w2 b hb).1, (w2 b hb).2, ?_⟩⟩
  have := (o3 b hb 2 (by omega)).2
  show s.2.2.2 b 2 ≤ 1
  have e6 : lsM (4 + 2) = 1 := by decide
  omega
def bcF : List (Nat × Nat) := [(3, 4), (3, 5), (3, 6), (3, 7), (3, 8)]
theorem bec_c {G : rx_Gh} {F : rx_Hp → Prop} {s : HS} {hc : rx_Hp} (hs : okS s) (hw : whB s = true) (S : FC s hc) (K : ∀ h', HC s.2.1 (s.2.2.1 0) (s.2.2.1 1) (s.2.2.1 2) (s.2.2.1 3) (hX s) (hY s) (hA s) h' → Fr bcF [4, 5, 6, 7] hc h' → F h') : Ev wC G 1 q_Ha_become [.ref 3, .ref 10] hc (rV F) := by
  have ok := hs_HOk hs hw
  have ht := ok.2.2.2.2.1
  have h6 := ok.1
  obtain ⟨⟨q1, q2⟩, ⟨q3, q4, q5, q6⟩, q7⟩ := S
  refine w_Ha_become ?_
  rw [q1, q3, q4, q5, q6]
  -- brights
  have l2 : ∀ (m k : Nat) (hx : rx_Hp), k + m = 21 → Fr bcF [4, 5, 6, 7] hc hx → (hx.1 3 4 = zI (s.2.1 : Nat) ∧ hx.1 3 5 = zI (s.2.2.1 0 : Nat) ∧ hx.1 3 6 = zI (s.2.2.1 1 : Nat) ∧ hx.1 3 7 = zI (s.2.2.1 2 : Nat) ∧ hx.1 3 8 = zI (s.2.2.1 3 : Nat)) → (∀ b, b < s.2.1 → hx.2.1 4 b = zI (hX s b : Nat) ∧ hx.2.1 5 b = zI (hY s b : Nat) ∧ hx.2.1 6 b = zI (hA s b : Nat)) → (∀ j, j < k → hx.2.1 7 j = zI (brI (s.2.2.1 3) j)) → Rn wC G 1 q_Ha_become 95 [some (.ref 3), none, some (.int (zI (brI (s.2.2.1 3) k))), some (.int (zI k))] [] hx (rV F) := by
    intro m
    induction m with
    | zero =>
      intro k hx hk fr f5 B I
      have hcn : 21 ≤ zI (k : Int) := by rw [show (21 : Int32) = zI 21 from by decide, zI_le (by omega) (by omega)]; omega
      exact w_Ha_become_95 _ _ ⟨fun _ => K hx ⟨f5, B, fun _ j hj => I j (by omega)⟩ fr, fun c => absurd hcn c⟩
    | succ m ih =>
      intro k hx hk fr f5 B I
      have hcn : ¬ 21 ≤ zI (k : Int) := by rw [show (21 : Int32) = zI 21 from by decide, zI_le (by omega) (by omega)]; omega
      refine w_Ha_become_95 _ _ ⟨fun c => absurd c hcn, fun _ => ⟨vp_N (by omega) (by omega), ?_⟩⟩
      rw [f5.2.2.2.2, brI_step ht, zI_cN (by omega), show zI (k : Int) + 1 = zI ((k + 1 : Nat) : Int) from zI_add k 1]
      refine ih (k + 1) _ (by omega) (fr.pa (by decide)) f5 (fun b hb => ?_) (fun j hj => ?_)
      · rw [pa_ne _ _ (by simp), pa_ne _ _ (by simp), pa_ne _ _ (by simp)]; exact B b hb
      · by_cases q : j = k
        · subst q; rw [pa_same]
        · rw [pa_ne _ _ (by simp; omega)]; exact I j (by omega)
  have l1 : ∀ (m k : Nat) (hx : rx_Hp), k + m = 6 → Fr bcF [4, 5, 6, 7] hc hx → (hx.1 3 4 = zI (s.2.1 : Nat) ∧ hx.1 3 5 = zI (s.2.2.1 0 : Nat) ∧ hx.1 3 6 = zI (s.2.2.1 1 : Nat) ∧ hx.1 3 7 = zI (s.2.2.1 2 : Nat) ∧ hx.1 3 8 = zI (s.2.2.1 3 : Nat)) → (∀ b, b < s.2.1 → hx.2.1 11 b = zI (hX s b : Nat) ∧ hx.2.1 12 b = zI (hY s b : Nat) ∧ hx.2.1 13 b = zI (hA s b : Nat)) → (∀ b, b < k → b < s.2.1 → hx.2.1 4 b = zI (hX s b : Nat) ∧ hx.2.1 5 b = zI (hY s b : Nat) ∧ hx.2.1 6 b = zI (hA s b : Nat)) → Rn wC G 1 q_Ha_become 42 [some (.ref 3), some (.ref 10), some (.int (zI k)), none] [] hx (rV F) := by
    intro m
    induction m with
    | zero =>
      intro k hx hk fr f5 S B
      have hcn : 6 ≤ zI (k : Int) := by rw [show (6 : Int32) = zI 6 from by decide, zI_le (by omega) (by omega)]; omega
      refine w_Ha_become_42 _ ⟨fun _ => ?_, fun c => absurd hcn c⟩
      exact l2 21 0 hx (by omega) fr f5 (fun b hb => B b (by omega) hb) (fun j hj => absurd hj (Nat.not_lt_zero j))
    | succ m ih =>
      intro k hx hk fr f5 S B
      have hcn : ¬ 6 ≤ zI (k : Int) := by rw [show (6 : Int32) = zI 6 from by decide, zI_le (by omega) (by omega)]; omega
      refine w_Ha_become_42 _ ⟨fun c => absurd c hcn, fun _ => ⟨vp_N (by omega) (by omega), ?_⟩⟩
      rw [zI_cN (by omega), show zI (k : Int) + 1 = zI ((k + 1 : Nat) : Int) from zI_add k 1]
      refine ih (k + 1) _ (by omega) (((fr.pa (by decide)).pa (by decide)).pa (by decide)) f5 (fun b hb => ?_) (fun b hb hb2 => ?_)
      · rw [pa_ne _ _ (by simp), pa_ne _ _ (by simp), pa_ne _ _ (by simp), pa_ne _ _ (by simp), pa_ne _ _ (by simp), pa_ne _ _ (by simp), pa_ne _ _ (by simp), pa_ne _ _ (by simp), pa_ne _ _ (by simp)]; exact S b hb
      · by_cases q : b = k
        · subst q
          rw [pa_ne _ _ (by simp), pa_ne _ _ (by simp), pa_same, pa_ne _ _ (by simp), pa_same, pa_same]
          exact S b hb2
        · rw [pa_ne _ _ (by simp), pa_ne _ _ (by simp), pa_ne _ _ (by simp [q]), pa_ne _ _ (by simp), pa_ne _ _ (by simp [q]), pa_ne _ _ (by simp), pa_ne _ _ (by simp [q]), pa_ne _ _ (by simp), pa_ne _ _ (by simp)]
          exact B b (by omega) hb2
  refine l1 6 0 _ (by omega) (((((Fr.rf.pf (by decide)).pf (by decide)).pf (by decide)).pf (by decide)).pf (by decide)) ⟨?_, ?_, ?_, ?_, ?_⟩ (fun b hb => q7 b hb) (fun b hb => absurd hb (Nat.not_lt_zero b))
  · rw [pf_ne _ _ (by decide), pf_ne _ _ (by decide), pf_ne _ _ (by decide), pf_ne _ _ (by decide), pf_same]
  · rw [pf_ne _ _ (by decide), pf_ne _ _ (by decide), pf_ne _ _ (by decide), pf_same]
  · rw [pf_ne _ _ (by decide), pf_ne _ _ (by decide), pf_same]
  · rw [pf_ne _ _ (by decide), pf_same]
  · rw [pf_same]
def tkF : List (Nat × Nat) := [(0, 23), (0, 24), (0, 25), (0, 26), (0, 27), (0, 42), (0, 30), (0, 44)]
theorem tak_m {G : rx_Gh} {F : Int32 → rx_Hp → Prop} {s : HS} {hm : rx_Hp} (hs : okS s) (hw : whB s = true) (S : FM s hm) (K : ∀ h', HM s.2.1 (s.2.2.1 0) (s.2.2.1 1) (s.2.2.1 2) (s.2.2.1 3) (hX s) (hY s) (hA s) h' → h'.1 0 42 = 0 → h'.1 0 30 = 0 → h'.1 0 44 = 0 → Fr tkF [13, 14, 15] hm h' → F (zI (s.2.1 : Nat)) h') : Ev wM G 1 q_M_takeHall [.ref 0] hm (rI F) := by
  have ok := hs_HOk hs hw
  have h6 := ok.1
  obtain ⟨q1, q2, q3⟩ := S
  refine w_M_takeHall ?_
  rw [q1, q2 0 (by omega), q2 1 (by omega), q2 2 (by omega), q2 3 (by omega)]
  have l1 : ∀ (m k : Nat) (hx : rx_Hp), k + m = 6 → Fr tkF [13, 14, 15] hm hx → (hx.1 0 23 = zI (s.2.1 : Nat) ∧ hx.1 0 24 = zI (s.2.2.1 0 : Nat) ∧ hx.1 0 25 = zI (s.2.2.1 1 : Nat) ∧ hx.1 0 26 = zI (s.2.2.1 2 : Nat) ∧ hx.1 0 27 = zI (s.2.2.1 3 : Nat)) → (∀ b, b < k → b < s.2.1 → hx.2.1 13 b = zI (hX s b : Nat) ∧ hx.2.1 14 b = zI (hY s b : Nat) ∧ hx.2.1 15 b = zI (hA s b : Nat)) → Rn wM G 1 q_M_takeHall 50 [some (.ref 0), some (.int (zI k))] [] hx (rI F) := by
    intro m
    induction m with
    | zero =>
      intro k hx hk fr f5 B
      have hcn : 6 ≤ zI (k : Int) := by rw [show (6 : Int32) = zI 6 from by decide, zI_le (by omega) (by omega)]; omega
      refine w_M_takeHall_50 _ ⟨fun _ => ?_, fun c => absurd hcn c⟩
      rw [f5.1]
      refine K _ ⟨⟨?_, ?_, ?_, ?_, ?_⟩, fun b hb => B b (by omega) hb⟩ ?_ ?_ ?_ (((fr.pf (by decide)).pf (by decide)).pf (by decide))
      · rw [pf_ne _ _ (by decide), pf_ne _ _ (by decide), pf_ne _ _ (by decide)]; exact f5.1
      · rw [pf_ne _ _ (by decide), pf_ne _ _ (by decide), pf_ne _ _ (by decide)]; exact f5.2.1
      · rw [pf_ne _ _ (by decide), pf_ne _ _ (by decide), pf_ne _ _ (by decide)]; exact f5.2.2.1
      · rw [pf_ne _ _ (by decide), pf_ne _ _ (by decide), pf_ne _ _ (by decide)]; exact f5.2.2.2.1
      · rw [pf_ne _ _ (by decide), pf_ne _ _ (by decide), pf_ne _ _ (by decide)]; exact f5.2.2.2.2
      · rw [pf_ne _ _ (by decide), pf_ne _ _ (by decide), pf_same]
      · rw [pf_ne _ _ (by decide), pf_same]
      · rw [pf_same]
    | succ m ih =>
      intro k hx hk fr f5 B
      have hcn : ¬ 6 ≤ zI (k : Int) := by rw [show (6 : Int32) = zI 6 from by decide, zI_le (by omega) (by omega)]; omega
      have a12 : ∀ j, hx.2.1 12 j = hm.2.1 12 j := fun j => by rw [fr.2.1 12 (by decide)]
      refine w_M_takeHall_50 _ ⟨fun c => absurd c hcn, fun _ => ?_⟩
      have e0 : 3 * zI (k : Int) = zI ((3 * k : Nat) : Int) := by rw [show (3 : Int32) = zI 3 from by decide, zI_mul]; rfl
      have e1 : zI ((3 * k : Nat) : Int) + 1 = zI ((3 * k + 1 : Nat) : Int) := zI_add _ 1
      have e2 : zI ((3 * k : Nat) : Int) + 2 = zI ((3 * k + 2 : Nat) : Int) := zI_add _ 2
      rw [e0, e1, e2, zI_cN (by omega), zI_cN (by omega), zI_cN (by omega), zI_cN (by omega), show zI (k : Int) + 1 = zI ((k + 1 : Nat) : Int) from zI_add k 1, a12, a12, a12]
      refine ⟨vp_N (by omega) (by omega), vp_N (by omega) (by omega), vp_N (by omega) (by omega), vp_N (by omega) (by omega), ?_⟩
      refine ih (k + 1) _ (by omega) (((fr.pa (by decide)).pa (by decide)).pa (by decide)) f5 (fun b hb hb2 => ?_)
      by_cases q : b = k
      · subst q
        rw [pa_ne _ _ (by simp), pa_ne _ _ (by simp), pa_same, pa_ne _ _ (by simp), pa_same, pa_same]
        exact ⟨q3 b hb2 0 (by omega), q3 b hb2 1 (by omega), q3 b hb2 2 (by omega)⟩
      · rw [pa_ne _ _ (by simp), pa_ne _ _ (by simp), pa_ne _ _ (by simp [q]), pa_ne _ _ (by simp), pa_ne _ _ (by simp [q]), pa_ne _ _ (by simp), pa_ne _ _ (by simp [q]), pa_ne _ _ (by simp), pa_ne _ _ (by simp)]
        exact B b (by omega) hb2
  refine l1 6 0 _ (by omega) (((((Fr.rf.pf (by decide)).pf (by decide)).pf (by decide)).pf (by decide)).pf (by decide)) ⟨?_, ?_, ?_, ?_, ?_⟩ (fun b hb => absurd hb (Nat.not_lt_zero b))
  · rw [pf_ne _ _ (by decide), pf_ne _ _ (by decide), pf_ne _ _ (by decide), pf_ne _ _ (by decide), pf_same]
  · rw [pf_ne _ _ (by decide), pf_ne _ _ (by decide), pf_ne _ _ (by decide), pf_same]
  · rw [pf_ne _ _ (by decide), pf_ne _ _ (by decide), pf_same]
  · rw [pf_ne _ _ (by decide), pf_same]
  · rw [pf_same]
end TKH

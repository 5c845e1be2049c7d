/-! fits: the model's side -/
section FTM
variable {nb w h g t np : Nat} {X Y A pe pf : Nat → Nat} {hm : rx_Hp}
theorem fitk_m {G : rx_Gh} {F : Int32 → rx_Hp → Prop} (ok : HOk nb w h g t X Y A) (op : POk nb np pe pf) (H : HM nb w h g t X Y A hm) (P : PM np pe pf hm) (n c : Int32) {x y : Nat} (hx : x ≤ w) (hy : y ≤ h) : ∀ (m k : Nat) (is : Bool), k + m = np →
    ((is && phL w h g X Y pe pf x y m k) = false → Rn wM G 5 q_M_fits 29 [some (.ref 0), some (.int n), some (.int c), some (.int (zI x)), some (.int (zI y + 1)), none, none] [] hm (rI F)) →
    ((is && phL w h g X Y pe pf x y m k) = true → (c = n → F (100 * zI x + zI y) hm) ∧ (¬ c = n → Rn wM G 5 q_M_fits 29 [some (.ref 0), some (.int n), some (.int (c + 1)), some (.int (zI x)), some (.int (zI y + 1)), none, none] [] hm (rI F))) →
    Rn wM G 5 q_M_fits 44 [some (.ref 0), some (.int n), some (.int c), some (.int (zI x)), some (.int (zI y)), some (.int (b2 is)), some (.int (zI k))] [] hm (rI F) := by
  have hnp := op.1
  intro m
  induction m with
  | zero =>
    intro k is hk K1 K2
    have hcn : hm.1 0 42 ≤ zI k := by rw [P.1]; exact (zI_le (by omega) (by omega)).mpr (by omega)
    rw [phL, Bool.and_true] at K1 K2
    exact w_M_fits_44 _ _ _ _ _ _ ⟨fun _ => ⟨fun q => K1 ((b2_0 _).mp q), fun q => K2 (b2_t q)⟩, fun q => absurd hcn q⟩
  | succ m ih =>
    intro k is hk K1 K2
    have hk' : k < np := by omega
    have hcn : ¬ hm.1 0 42 ≤ zI k := by rw [P.1, zI_le (by omega) (by omega)]; omega
    have ek : zI (k : Int) + 1 = zI ((k + 1 : Nat) : Int) := zI_add k 1
    rw [phL] at K1 K2
    refine w_M_fits_44 _ _ _ _ _ _ ⟨fun q => absurd q hcn, fun _ => ⟨fun q => ?_, fun q => ?_⟩⟩
    · have z := (b2_0 _).mp q
      subst z
      rw [ek]
      exact ih (k + 1) false (by omega) (fun _ => K1 (Bool.false_and _)) (fun z => absurd z (by rw [Bool.false_and]; decide))
    · have z := b2_t q
      subst z
      rw [Bool.true_and] at K1 K2
      refine onP_m ok op H P hk' hx hy ?_
      rw [ek]
      have eb : (if b2 (phA w h g X Y (pe k) (pf k) x y) = 0 then (0 : Int32) else 1) = b2 (phA w h g X Y (pe k) (pf k) x y) := by
        cases phA w h g X Y (pe k) (pf k) x y <;> rfl
      rw [eb]
      exact ih (k + 1) _ (by omega) K1 K2
theorem fity_m {G : rx_Gh} {F : Int32 → rx_Hp → Prop} (ok : HOk nb w h g t X Y A) (op : POk nb np pe pf) (H : HM nb w h g t X Y A hm) (P : PM np pe pf hm) (n : Int32) {x : Nat} (hx : x ≤ w) : ∀ (m y : Nat) (c : Int32), y + m = h + 1 → (∀ v, fyF n x (fun y => phL w h g X Y pe pf x y np 0) m y c = .inl v → F v hm) → (∀ c', fyF n x (fun y => phL w h g X Y pe pf x y np 0) m y c = .inr c' → Rn wM G 5 q_M_fits 18 [some (.ref 0), some (.int n), some (.int c'), some (.int (zI x + 1)), none, none, none] [] hm (rI F)) →
    Rn wM G 5 q_M_fits 29 [some (.ref 0), some (.int n), some (.int c), some (.int (zI x)), some (.int (zI y)), none, none] [] hm (rI F) := by
  have hh := ok.2.2.1
  intro m
  induction m with
  | zero =>
    intro y c hy _ K2
    have hcn : hm.1 0 25 < zI y := by rw [H.1.2.2.1]; exact (zI_lt (by omega) (by omega)).mpr (by omega)
    exact w_M_fits_29 _ _ _ _ ⟨fun _ => K2 c rfl, fun q => absurd hcn q⟩
  | succ m ih =>
    intro y c hy K1 K2
    have hcn : ¬ hm.1 0 25 < zI y := by rw [H.1.2.2.1, zI_lt (by omega) (by omega)]; omega
    rw [fyF] at K1 K2
    have ey : zI (y : Int) + 1 = zI ((y + 1 : Nat) : Int) := zI_add y 1
    refine w_M_fits_29 _ _ _ _ ⟨fun q => absurd q hcn, fun _ => ?_⟩
    refine fitk_m ok op H P n c hx (by omega) np 0 true (by omega) (fun z => ?_) (fun z => ?_)
    · rw [Bool.true_and] at z
      rw [z, if_neg (by decide)] at K1 K2
      rw [ey]
      exact ih (y + 1) c (by omega) K1 K2
    · rw [Bool.true_and] at z
      rw [z, if_pos rfl] at K1 K2
      refine ⟨fun q2 => ?_, fun q2 => ?_⟩
      · rw [if_pos q2] at K1
        exact K1 _ rfl
      · rw [if_neg q2] at K1 K2
        rw [ey]
        exact ih (y + 1) (c + 1) (by omega) K1 K2
theorem fitx_m {G : rx_Gh} {F : Int32 → rx_Hp → Prop} (ok : HOk nb w h g t X Y A) (op : POk nb np pe pf) (H : HM nb w h g t X Y A hm) (P : PM np pe pf hm) (n : Int32) : ∀ (m x : Nat) (c : Int32), x + m = w + 1 → F (fitV n (fxF n h (fun x y => phL w h g X Y pe pf x y np 0) m x c)) hm →
    Rn wM G 5 q_M_fits 18 [some (.ref 0), some (.int n), some (.int c), some (.int (zI x)), none, none, none] [] hm (rI F) := by
  have hw := ok.2.1
  intro m
  induction m with
  | zero =>
    intro x c hx K
    have hcn : hm.1 0 24 < zI x := by rw [H.1.2.1]; exact (zI_lt (by omega) (by omega)).mpr (by omega)
    exact w_M_fits_18 _ _ _ ⟨fun _ => K, fun q => absurd hcn q⟩
  | succ m ih =>
    intro x c hx K
    have hcn : ¬ hm.1 0 24 < zI x := by rw [H.1.2.1, zI_lt (by omega) (by omega)]; omega
    rw [fxF] at K
    refine w_M_fits_18 _ _ _ ⟨fun q => absurd q hcn, fun _ => ?_⟩
    refine fity_m (x := x) ok op H P n (by omega) (h + 1) 0 c (by omega) (fun v e => ?_) (fun c' e => ?_)
    · rw [e] at K; exact K
    · rw [e] at K
      rw [show zI (x : Int) + 1 = zI ((x + 1 : Nat) : Int) from zI_add x 1]
      exact ih (x + 1) c' (by omega) K
theorem a_fits_m {G : rx_Gh} {F : Int32 → rx_Hp → Prop} (ok : HOk nb w h g t X Y A) (op : POk nb np pe pf) (H : HM nb w h g t X Y A hm) (P : PM np pe pf hm) (n : Int32) (K : F (A_fits nb w h g np X Y pe pf n) hm) : Ev wM G 5 q_M_fits [.ref 0, .int n] hm (rI F) := by
  have h6 := ok.1
  have c0 : hm.1 0 23 = 0 ↔ nb = 0 := by rw [H.1.1]; exact z0_iff (by omega)
  have e1 := i_le' n (-1) (by omega)
  rw [show zI (-1) = (-1 : Int32) from by decide] at e1
  refine w_M_fits n ?_
  unfold A_fits at K
  refine ⟨fun c => ?_, fun c => ⟨fun c2 => ?_, fun c2 => ?_⟩⟩
  · have := c0.mp c
    rw [if_neg (by omega)] at K; exact K
  · have z1 := mtn c0 c
    have z2 := e1.mp c2
    rw [if_pos ⟨by omega, z2⟩] at K
    exact fitx_m ok op H P n (w + 1) 0 0 (by omega) K
  · have z2 := mtn e1 c2
    rw [if_neg (fun q => z2 q.2)] at K; exact K
end FTM

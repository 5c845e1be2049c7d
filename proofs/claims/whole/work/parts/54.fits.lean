/-! fits: both sides -/
def phL (w h g : Nat) (X Y pe pf : Nat → Nat) (x y : Nat) : Nat → Nat → Bool
  | 0, _ => true
  | m + 1, k => phA w h g X Y (pe k) (pf k) x y && phL w h g X Y pe pf x y m (k + 1)
def fyF (n : Int32) (x : Nat) (p : Nat → Bool) : Nat → Nat → Int32 → Int32 ⊕ Int32
  | 0, _, c => .inr c
  | m + 1, y, c => if p y = true then (if c = n then .inl (100 * zI x + zI y) else fyF n x p m (y + 1) (c + 1)) else fyF n x p m (y + 1) c
def fxF (n : Int32) (hh : Nat) (p : Nat → Nat → Bool) : Nat → Nat → Int32 → Int32 ⊕ Int32
  | 0, _, c => .inr c
  | m + 1, x, c => match fyF n x (p x) (hh + 1) 0 c with
    | .inl v => .inl v
    | .inr c' => fxF n hh p m (x + 1) c'
def fitV (n : Int32) (r : Int32 ⊕ Int32) : Int32 := match r with
  | .inl v => v
  | .inr c => if n = -1 then c else -1
section FIT
variable {nb w h g t np : Nat} {X Y A pe pf : Nat → Nat} {hc hm : rx_Hp}
theorem all_c {G : rx_Gh} {F : Int32 → rx_Hp → Prop} (ok : HOk nb w h g t X Y A) (op : POk nb np pe pf) (H : HC nb w h g t X Y A hc) (P : PC np pe pf hc) {x y : Nat} (hx : x ≤ w) (hy : y ≤ h) : ∀ (m k : Nat), k + m = np → F (b2 (phL w h g X Y pe pf x y m k)) hc → Rn wC G 5 q_Ph_allShow 2 [some (.ref 47), some (.int (zI x)), some (.int (zI y)), some (.int (zI k))] [] hc (rI F) := by
  have hnp := op.1
  intro m
  induction m with
  | zero =>
    intro k hk K
    have hcn : hc.1 47 3 ≤ zI k := by rw [P.1]; exact (zI_le (by omega) (by omega)).mpr (by omega)
    exact w_Ph_allShow_2 _ _ _ ⟨fun _ => K, fun c => absurd hcn c⟩
  | succ m ih =>
    intro k hk K
    have hk' : k < np := by omega
    have hcn : ¬ hc.1 47 3 ≤ zI k := by rw [P.1, zI_le (by omega) (by omega)]; omega
    have h12 : ¬ 12 ≤ zI (k : Int) := by rw [show (12 : Int32) = zI 12 from by decide, zI_le (by omega) (by omega)]; omega
    rw [phL] at K
    refine w_Ph_allShow_2 _ _ _ ⟨fun c => absurd c hcn, fun _ => ⟨fun c => absurd c h12, fun _ => ⟨vp_N (by omega) (by omega), ?_⟩⟩⟩
    rw [zI_cN (by omega), (P.2 k hk').1, (P.2 k hk').2]
    refine shows_c ok H (op.2 k hk').1 (op.2 k hk').2 hx hy ⟨fun c => ?_, fun c => ?_⟩
    · rw [(b2_0 _).mp c, Bool.false_and] at K; exact K
    · rw [b2_t c, Bool.true_and] at K
      rw [show zI (k : Int) + 1 = zI ((k + 1 : Nat) : Int) from zI_add k 1]
      exact ih (k + 1) (by omega) K
theorem fity_c {G : rx_Gh} {F : Int32 → rx_Hp → Prop} (ok : HOk nb w h g t X Y A) (op : POk nb np pe pf) (H : HC nb w h g t X Y A hc) (P : PC np pe pf hc) (n : Int32) {x : Nat} (hx : x ≤ w) : ∀ (m y : Nat) (c : Int32), y + m = h + 1 → (∀ v, fyF n x (fun y => phL w h g X Y pe pf x y np 0) m y c = .inl v → F v hc) → (∀ c', fyF n x (fun y => phL w h g X Y pe pf x y np 0) m y c = .inr c' → Rn wC G 6 q_GR_fits 16 [some (.ref 0), some (.int n), some (.int c'), some (.int (zI x + 1)), none] [] hc (rI F)) →
    Rn wC G 6 q_GR_fits 30 [some (.ref 0), some (.int n), some (.int c), some (.int (zI x)), some (.int (zI y))] [] hc (rI F) := by
  have hh := ok.2.2.1
  intro m
  induction m with
  | zero =>
    intro y c hy _ K2
    have hcn : hc.1 3 6 < zI y := by rw [H.1.2.2.1]; exact (zI_lt (by omega) (by omega)).mpr (by omega)
    exact w_GR_fits_30 _ _ _ _ ⟨fun _ => K2 c rfl, fun q => absurd hcn q⟩
  | succ m ih =>
    intro y c hy K1 K2
    have hcn : ¬ hc.1 3 6 < zI y := by rw [H.1.2.2.1, zI_lt (by omega) (by omega)]; omega
    rw [fyF] at K1 K2
    refine w_GR_fits_30 _ _ _ _ ⟨fun q => absurd q hcn, fun _ => ?_⟩
    have ey : zI (y : Int) + 1 = zI ((y + 1 : Nat) : Int) := zI_add y 1
    refine w_Ph_allShow _ _ (all_c ok op H P hx (by omega) np 0 (by omega) ⟨fun q => ?_, fun q => ⟨fun q2 => ?_, fun q2 => ?_⟩⟩)
    · have z := (b2_0 _).mp q
      rw [z, if_neg (by decide)] at K1 K2
      rw [ey]
      exact ih (y + 1) c (by omega) K1 K2
    · have z := b2_t q
      rw [z, if_pos rfl, if_pos q2] at K1
      exact K1 _ rfl
    · have z := b2_t q
      rw [z, if_pos rfl, if_neg q2] at K1 K2
      rw [ey]
      exact ih (y + 1) (c + 1) (by omega) K1 K2
theorem fitx_c {G : rx_Gh} {F : Int32 → rx_Hp → Prop} (ok : HOk nb w h g t X Y A) (op : POk nb np pe pf) (H : HC nb w h g t X Y A hc) (P : PC np pe pf hc) (n : Int32) : ∀ (m x : Nat) (c : Int32), x + m = w + 1 → F (fitV n (fxF n h (fun x y => phL w h g X Y pe pf x y np 0) m x c)) hc →
    Rn wC G 6 q_GR_fits 16 [some (.ref 0), some (.int n), some (.int c), some (.int (zI x)), none] [] hc (rI F) := by
  have hw := ok.2.1
  intro m
  induction m with
  | zero =>
    intro x c hx K
    have hcn : hc.1 3 5 < zI x := by rw [H.1.2.1]; exact (zI_lt (by omega) (by omega)).mpr (by omega)
    exact w_GR_fits_16 _ _ _ ⟨fun _ => K, fun q => absurd hcn q⟩
  | succ m ih =>
    intro x c hx K
    have hcn : ¬ hc.1 3 5 < zI x := by rw [H.1.2.1, zI_lt (by omega) (by omega)]; omega
    rw [fxF] at K
    refine w_GR_fits_16 _ _ _ ⟨fun q => absurd q hcn, fun _ => ?_⟩
    refine fity_c (x := x) ok op H P n (by omega) (h + 1) 0 c (by omega) (fun v e => ?_) (fun c' e => ?_)
    · rw [e] at K; exact K
    · rw [e] at K
      rw [show zI (x : Int) + 1 = zI ((x + 1 : Nat) : Int) from zI_add x 1]
      exact ih (x + 1) c' (by omega) K
def A_fits (nb w h g np : Nat) (X Y pe pf : Nat → Nat) (n : Int32) : Int32 := if 0 < nb ∧ -1 ≤ n.toInt then fitV n (fxF n h (fun x y => phL w h g X Y pe pf x y np 0) (w + 1) 0 0) else -1
theorem fyF_neg {n : Int32} {x : Nat} {p : Nat → Bool} (hn : n.toInt < -1) : ∀ (m y k : Nat), k + m ≤ 1000 → ∃ k' : Nat, k' ≤ k + m ∧ fyF n x p m y (zI k) = .inr (zI k')
  | 0, y, k, _ => ⟨k, by omega, rfl⟩
  | m + 1, y, k, hk => by
    rw [fyF]
    have hne : ¬ zI (k : Int) = n := fun q => by
      have : n.toInt = k := by rw [← q, zI_toInt (by omega) (by omega)]
      omega
    by_cases q : p y = true
    · rw [if_pos q, if_neg hne, show zI (k : Int) + 1 = zI ((k + 1 : Nat) : Int) from zI_add k 1]
      obtain ⟨k', h1, h2⟩ := fyF_neg hn m (y + 1) (k + 1) (by omega)
      exact ⟨k', by omega, h2⟩
    · rw [if_neg q]
      obtain ⟨k', h1, h2⟩ := fyF_neg hn m (y + 1) k (by omega)
      exact ⟨k', by omega, h2⟩
theorem fxF_neg {n : Int32} {hh : Nat} {p : Nat → Nat → Bool} (hn : n.toInt < -1) (h20 : hh ≤ 20) : ∀ (m x k : Nat), k + m * 21 ≤ 1000 → ∃ k' : Nat, fxF n hh p m x (zI k) = .inr (zI k')
  | 0, x, k, _ => ⟨k, rfl⟩
  | m + 1, x, k, hk => by
    rw [fxF]
    obtain ⟨k', h1, h2⟩ := fyF_neg (x := x) (p := p x) hn (hh + 1) 0 k (by omega)
    rw [h2]
    exact fxF_neg hn h20 m (x + 1) k' (by omega)
theorem a_fits_c {G : rx_Gh} {F : Int32 → rx_Hp → Prop} (ok : HOk nb w h g t X Y A) (op : POk nb np pe pf) (H : HC nb w h g t X Y A hc) (P : PC np pe pf hc) (n : Int32) (K : F (A_fits nb w h g np X Y pe pf n) hc) : Ev wC G 6 q_GR_fits [.ref 0, .int n] hc (rI F) := by
  have h6 := ok.1
  have hw := ok.2.1
  have hh := ok.2.2.1
  refine w_GR_fits n ?_
  rw [stands_c h6 H.1.1]
  unfold A_fits at K
  refine ⟨fun c => ?_, fun c => ?_⟩
  · have := (b2_0 _).mp c
    rw [if_neg (by simp at this; omega)] at K; exact K
  · have z1 : 0 < nb := by have := b2_t c; simpa using this
    refine fitx_c ok op H P n (w + 1) 0 0 (by omega) ?_
    by_cases hn : -1 ≤ n.toInt
    · rw [if_pos ⟨z1, hn⟩] at K; exact K
    · rw [if_neg (fun q => hn q.2)] at K
      obtain ⟨k', e⟩ := fxF_neg (n := n) (hh := h) (p := fun x y => phL w h g X Y pe pf x y np 0) (by omega) hh (w + 1) 0 0 (by omega)
      rw [show (0 : Int32) = zI ((0 : Nat) : Int) from by decide, e]
      show F (if n = -1 then zI k' else -1) hc
      rw [if_neg (fun q => hn (by rw [q]; decide))]
      exact K
end FIT

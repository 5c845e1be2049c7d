/-! rows of places: writing and reading them, both sides -/
def rx_se (hp : rx_Hp) (k : Nat) (f : Nat → Int32) : rx_Hp := (hp.1, fun j => if j = k then f else hp.2.1 j, hp.2.2)
theorem sa_pa (hp : rx_Hp) (k : Nat) (f : Nat → Int32) (i : Nat) (v : Int32) : rx_pa (rx_se hp k f) k i v = rx_se hp k (upd f i v) := by
  unfold rx_pa rx_se
  congr 2
  funext j
  by_cases h : j = k <;> simp [h]
theorem sa_self (hp : rx_Hp) (k : Nat) : rx_se hp k (hp.2.1 k) = hp := by
  unfold rx_se
  congr 2
  funext j
  by_cases h : j = k <;> simp [h]
theorem sa_same (hp : rx_Hp) (k : Nat) (f : Nat → Int32) : (rx_se hp k f).2.1 k = f := by simp [rx_se]
theorem sa_ne (hp : rx_Hp) {k j : Nat} (f : Nat → Int32) (h : j ≠ k) : (rx_se hp k f).2.1 j = hp.2.1 j := by simp [rx_se, h]
theorem sa_f (hp : rx_Hp) (k : Nat) (f : Nat → Int32) : (rx_se hp k f).1 = hp.1 := rfl
theorem Fr.sa {fs : List (Nat × Nat)} {as : List Nat} {a b : rx_Hp} (h : Fr fs as a b) {k : Nat} {f : Nat → Int32} (hm : k ∈ as) : Fr fs as a (rx_se b k f) := by
  refine ⟨h.1, fun k' q => ?_, h.2.2⟩
  rw [← h.2.1 k' q]
  exact sa_ne _ _ (fun e => q (e ▸ hm))
/-- the first n places from 'fr' on are those of r -/
def wrP (f : Nat → Int32) (fr : Nat) (r : Nat → Int32) (n : Nat) : Nat → Int32 := fun i => if fr ≤ i ∧ i < fr + n then r (i - fr) else f i
theorem wrP_0 (f : Nat → Int32) (fr : Nat) (r : Nat → Int32) : wrP f fr r 0 = f := by
  funext i
  unfold wrP
  rw [if_neg (by omega)]
theorem wrP_s (f : Nat → Int32) (fr : Nat) (r : Nat → Int32) (n : Nat) : upd (wrP f fr r n) (fr + n) (r n) = wrP f fr r (n + 1) := by
  funext i
  unfold upd wrP
  by_cases h : i = fr + n
  · rw [if_pos h, if_pos (by omega), h]
    congr 1
    omega
  · rw [if_neg h]
    by_cases h2 : fr ≤ i ∧ i < fr + n
    · rw [if_pos h2, if_pos (by omega)]
    · rw [if_neg h2, if_neg (by omega)]
def rdP (f : Nat → Int32) (r : Nat → Int32) (n : Nat) : Nat → Int32 := fun i => if i < n then r i else f i
theorem rdP_0 (f r : Nat → Int32) : rdP f r 0 = f := by funext i; simp [rdP]
theorem rdP_s (f r : Nat → Int32) (n : Nat) : upd (rdP f r n) n (r n) = rdP f r (n + 1) := by
  funext i
  unfold upd rdP
  by_cases h : i = n
  · subst h; rw [if_pos rfl, if_pos (by omega)]
  · rw [if_neg h]
    by_cases h2 : i < n
    · rw [if_pos h2, if_pos (by omega)]
    · rw [if_neg h2, if_neg (by omega)]
def rowF (xs ys : Nat → Int32) (gl : Int32) (p : Nat) : Int32 := if p = 12 then gl else if p % 2 = 0 then xs (p / 2) else ys (p / 2)
theorem l_writeTo_38 {G : rx_Gh} {hp : rx_Hp} {F : rx_Hp → Prop} {fr : Nat} (hf : fr + 13 ≤ 520) (K : F (rx_se hp 38 (wrP (hp.2.1 38) fr (rowF (hp.2.1 4) (hp.2.1 5) (hp.1 3 7)) 13))) : ∀ (m b : Nat), b + m = 6 → Rn wC G 1 q_Ha_writeTo 16 [some (.ref 3), some (.ref 38), some (.int (zI fr)), some (.int (zI b))] [] (rx_se hp 38 (wrP (hp.2.1 38) fr (rowF (hp.2.1 4) (hp.2.1 5) (hp.1 3 7)) (2 * b))) (rV F) := by
  have e6 : (6 : Int32) = zI 6 := by decide
  intro m
  induction m with
  | zero =>
    intro b hb
    have hb : b = 6 := by omega
    subst hb
    have e1 : zI (fr : Int) + 13 - 1 = zI ((fr + 12 : Nat) : Int) := by
      rw [show (13 : Int32) = zI 13 from by decide, show (1 : Int32) = zI 1 from by decide, zI_add, zI_sub]; congr 1; omega
    refine w_Ha_writeTo_38_16 _ _ ⟨fun _ => ?_, fun c => absurd (show (6 : Int32) ≤ zI ((6 : Nat) : Int) by decide) c⟩
    rw [e1]
    refine ⟨vp_N (by omega) (by omega), ?_⟩
    rw [zI_cN (by omega), sa_pa, sa_f]
    have : upd (wrP (hp.2.1 38) fr (rowF (hp.2.1 4) (hp.2.1 5) (hp.1 3 7)) (2 * 6)) (fr + 12) (hp.1 3 7) = wrP (hp.2.1 38) fr (rowF (hp.2.1 4) (hp.2.1 5) (hp.1 3 7)) 13 := wrP_s _ _ (rowF (hp.2.1 4) (hp.2.1 5) (hp.1 3 7)) 12
    rw [this]
    exact K
  | succ m ih =>
    intro b hb
    have hc : ¬ 6 ≤ zI (b : Int) := by rw [e6, zI_le (by omega) (by omega)]; omega
    have e2 : zI (fr : Int) + 2 * zI (b : Int) = zI ((fr + 2 * b : Nat) : Int) := by
      rw [show (2 : Int32) = zI 2 from by decide, zI_mul, zI_add]; rfl
    have e3 : zI ((fr + 2 * b : Nat) : Int) + 1 = zI ((fr + 2 * b + 1 : Nat) : Int) := zI_add _ 1
    have e4 : zI (b : Int) + 1 = zI ((b + 1 : Nat) : Int) := zI_add b 1
    refine w_Ha_writeTo_38_16 _ _ ⟨fun c => absurd c hc, fun _ => ?_⟩
    rw [e2, e3, e4]
    refine ⟨vp_N (by omega) (by omega), vp_N (by omega) (by omega), vp_N (by omega) (by omega), ?_⟩
    rw [zI_cN (by omega), zI_cN (by omega), zI_cN (by omega), sa_pa, sa_pa, sa_ne _ _ (by decide), sa_ne _ _ (by decide)]
    have a1 : upd (wrP (hp.2.1 38) fr (rowF (hp.2.1 4) (hp.2.1 5) (hp.1 3 7)) (2 * b)) (fr + 2 * b) (hp.2.1 4 b) = wrP (hp.2.1 38) fr (rowF (hp.2.1 4) (hp.2.1 5) (hp.1 3 7)) (2 * b + 1) := by
      have := wrP_s (hp.2.1 38) fr (rowF (hp.2.1 4) (hp.2.1 5) (hp.1 3 7)) (2 * b)
      rw [show rowF (hp.2.1 4) (hp.2.1 5) (hp.1 3 7) (2 * b) = hp.2.1 4 b by unfold rowF; rw [if_neg (by omega), if_pos (by omega), show 2 * b / 2 = b by omega]] at this
      exact this
    have a2 : upd (wrP (hp.2.1 38) fr (rowF (hp.2.1 4) (hp.2.1 5) (hp.1 3 7)) (2 * b + 1)) (fr + 2 * b + 1) (hp.2.1 5 b) = wrP (hp.2.1 38) fr (rowF (hp.2.1 4) (hp.2.1 5) (hp.1 3 7)) (2 * (b + 1)) := by
      have := wrP_s (hp.2.1 38) fr (rowF (hp.2.1 4) (hp.2.1 5) (hp.1 3 7)) (2 * b + 1)
      rw [show rowF (hp.2.1 4) (hp.2.1 5) (hp.1 3 7) (2 * b + 1) = hp.2.1 5 b by unfold rowF; rw [if_neg (by omega), if_neg (by omega), show (2 * b + 1) / 2 = b by omega]] at this
      exact this
    rw [a1, a2]
    exact ih (b + 1) (by omega)
theorem l_readFrom_38 {G : rx_Gh} {hp : rx_Hp} {F : rx_Hp → Prop} {fr : Nat} (hf : fr + 13 ≤ 520) (K : F (rx_pf (rx_se (rx_se hp 4 (rdP (hp.2.1 4) (fun i => hp.2.1 38 (fr + 2 * i)) 6)) 5 (rdP (hp.2.1 5) (fun i => hp.2.1 38 (fr + 2 * i + 1)) 6)) 3 7 (hp.2.1 38 (fr + 12)))) : ∀ (m b : Nat), b + m = 6 → Rn wC G 1 q_Ha_readFrom 16 [some (.ref 3), some (.ref 38), some (.int (zI fr)), some (.int (zI b))] [] (rx_se (rx_se hp 4 (rdP (hp.2.1 4) (fun i => hp.2.1 38 (fr + 2 * i)) b)) 5 (rdP (hp.2.1 5) (fun i => hp.2.1 38 (fr + 2 * i + 1)) b)) (rV F) := by
  have e6 : (6 : Int32) = zI 6 := by decide
  intro m
  induction m with
  | zero =>
    intro b hb
    have hb : b = 6 := by omega
    subst hb
    have e1 : zI (fr : Int) + 13 - 1 = zI ((fr + 12 : Nat) : Int) := by
      rw [show (13 : Int32) = zI 13 from by decide, show (1 : Int32) = zI 1 from by decide, zI_add, zI_sub]; congr 1; omega
    refine w_Ha_readFrom_38_16 _ _ ⟨fun _ => ?_, fun c => absurd (show (6 : Int32) ≤ zI ((6 : Nat) : Int) by decide) c⟩
    rw [e1]
    refine ⟨vp_N (by omega) (by omega), ?_⟩
    rw [zI_cN (by omega), sa_ne _ _ (by decide), sa_ne _ _ (by decide)]
    exact K
  | succ m ih =>
    intro b hb
    have hc : ¬ 6 ≤ zI (b : Int) := by rw [e6, zI_le (by omega) (by omega)]; omega
    have e2 : zI (fr : Int) + 2 * zI (b : Int) = zI ((fr + 2 * b : Nat) : Int) := by
      rw [show (2 : Int32) = zI 2 from by decide, zI_mul, zI_add]; rfl
    have e3 : zI ((fr + 2 * b : Nat) : Int) + 1 = zI ((fr + 2 * b + 1 : Nat) : Int) := zI_add _ 1
    have e4 : zI (b : Int) + 1 = zI ((b + 1 : Nat) : Int) := zI_add b 1
    refine w_Ha_readFrom_38_16 _ _ ⟨fun c => absurd c hc, fun _ => ?_⟩
    rw [e2, e3, e4]
    refine ⟨vp_N (by omega) (by omega), vp_N (by omega) (by omega), vp_N (by omega) (by omega), ?_⟩
    rw [zI_cN (by omega), zI_cN (by omega), zI_cN (by omega), sa_ne _ _ (by decide), sa_ne _ _ (by decide)]
    have hx : ∀ (hp : rx_Hp) (f g : Nat → Int32) (i : Nat) (v u : Int32), rx_pa (rx_pa (rx_se (rx_se hp 4 f) 5 g) 4 i v) 5 i u = rx_se (rx_se hp 4 (upd f i v)) 5 (upd g i u) := by
      intro hp f g i v u
      unfold rx_pa rx_se
      congr 2
      funext j
      by_cases h1 : j = 5
      · subst h1; simp
      · by_cases h2 : j = 4
        · subst h2; simp
        · simp [h1, h2]
    rw [hx]
    have a1 := rdP_s (hp.2.1 4) (fun i => hp.2.1 38 (fr + 2 * i)) b
    have a2 := rdP_s (hp.2.1 5) (fun i => hp.2.1 38 (fr + 2 * i + 1)) b
    rw [a1, a2]
    exact ih (b + 1) (by omega)
theorem l_writeTo_39 {G : rx_Gh} {hp : rx_Hp} {F : rx_Hp → Prop} {fr : Nat} (hf : fr + 13 ≤ 13) (K : F (rx_se hp 39 (wrP (hp.2.1 39) fr (rowF (hp.2.1 4) (hp.2.1 5) (hp.1 3 7)) 13))) : ∀ (m b : Nat), b + m = 6 → Rn wC G 1 q_Ha_writeTo 16 [some (.ref 3), some (.ref 39), some (.int (zI fr)), some (.int (zI b))] [] (rx_se hp 39 (wrP (hp.2.1 39) fr (rowF (hp.2.1 4) (hp.2.1 5) (hp.1 3 7)) (2 * b))) (rV F) := by
  have e6 : (6 : Int32) = zI 6 := by decide
  intro m
  induction m with
  | zero =>
    intro b hb
    have hb : b = 6 := by omega
    subst hb
    have e1 : zI (fr : Int) + 13 - 1 = zI ((fr + 12 : Nat) : Int) := by
      rw [show (13 : Int32) = zI 13 from by decide, show (1 : Int32) = zI 1 from by decide, zI_add, zI_sub]; congr 1; omega
    refine w_Ha_writeTo_39_16 _ _ ⟨fun _ => ?_, fun c => absurd (show (6 : Int32) ≤ zI ((6 : Nat) : Int) by decide) c⟩
    rw [e1]
    refine ⟨vp_N (by omega) (by omega), ?_⟩
    rw [zI_cN (by omega), sa_pa, sa_f]
    have : upd (wrP (hp.2.1 39) fr (rowF (hp.2.1 4) (hp.2.1 5) (hp.1 3 7)) (2 * 6)) (fr + 12) (hp.1 3 7) = wrP (hp.2.1 39) fr (rowF (hp.2.1 4) (hp.2.1 5) (hp.1 3 7)) 13 := wrP_s _ _ (rowF (hp.2.1 4) (hp.2.1 5) (hp.1 3 7)) 12
    rw [this]
    exact K
  | succ m ih =>
    intro b hb
    have hc : ¬ 6 ≤ zI (b : Int) := by rw [e6, zI_le (by omega) (by omega)]; omega
    have e2 : zI (fr : Int) + 2 * zI (b : Int) = zI ((fr + 2 * b : Nat) : Int) := by
      rw [show (2 : Int32) = zI 2 from by decide, zI_mul, zI_add]; rfl
    have e3 : zI ((fr + 2 * b : Nat) : Int) + 1 = zI ((fr + 2 * b + 1 : Nat) : Int) := zI_add _ 1
    have e4 : zI (b : Int) + 1 = zI ((b + 1 : Nat) : Int) := zI_add b 1
    refine w_Ha_writeTo_39_16 _ _ ⟨fun c => absurd c hc, fun _ => ?_⟩
    rw [e2, e3, e4]
    refine ⟨vp_N (by omega) (by omega), vp_N (by omega) (by omega), vp_N (by omega) (by omega), ?_⟩
    rw [zI_cN (by omega), zI_cN (by omega), zI_cN (by omega), sa_pa, sa_pa, sa_ne _ _ (by decide), sa_ne _ _ (by decide)]
    have a1 : upd (wrP (hp.2.1 39) fr (rowF (hp.2.1 4) (hp.2.1 5) (hp.1 3 7)) (2 * b)) (fr + 2 * b) (hp.2.1 4 b) = wrP (hp.2.1 39) fr (rowF (hp.2.1 4) (hp.2.1 5) (hp.1 3 7)) (2 * b + 1) := by
      have := wrP_s (hp.2.1 39) fr (rowF (hp.2.1 4) (hp.2.1 5) (hp.1 3 7)) (2 * b)
      rw [show rowF (hp.2.1 4) (hp.2.1 5) (hp.1 3 7) (2 * b) = hp.2.1 4 b by unfold rowF; rw [if_neg (by omega), if_pos (by omega), show 2 * b / 2 = b by omega]] at this
      exact this
    have a2 : upd (wrP (hp.2.1 39) fr (rowF (hp.2.1 4) (hp.2.1 5) (hp.1 3 7)) (2 * b + 1)) (fr + 2 * b + 1) (hp.2.1 5 b) = wrP (hp.2.1 39) fr (rowF (hp.2.1 4) (hp.2.1 5) (hp.1 3 7)) (2 * (b + 1)) := by
      have := wrP_s (hp.2.1 39) fr (rowF (hp.2.1 4) (hp.2.1 5) (hp.1 3 7)) (2 * b + 1)
      rw [show rowF (hp.2.1 4) (hp.2.1 5) (hp.1 3 7) (2 * b + 1) = hp.2.1 5 b by unfold rowF; rw [if_neg (by omega), if_neg (by omega), show (2 * b + 1) / 2 = b by omega]] at this
      exact this
    rw [a1, a2]
    exact ih (b + 1) (by omega)
theorem l_readFrom_39 {G : rx_Gh} {hp : rx_Hp} {F : rx_Hp → Prop} {fr : Nat} (hf : fr + 13 ≤ 13) (K : F (rx_pf (rx_se (rx_se hp 4 (rdP (hp.2.1 4) (fun i => hp.2.1 39 (fr + 2 * i)) 6)) 5 (rdP (hp.2.1 5) (fun i => hp.2.1 39 (fr + 2 * i + 1)) 6)) 3 7 (hp.2.1 39 (fr + 12)))) : ∀ (m b : Nat), b + m = 6 → Rn wC G 1 q_Ha_readFrom 16 [some (.ref 3), some (.ref 39), some (.int (zI fr)), some (.int (zI b))] [] (rx_se (rx_se hp 4 (rdP (hp.2.1 4) (fun i => hp.2.1 39 (fr + 2 * i)) b)) 5 (rdP (hp.2.1 5) (fun i => hp.2.1 39 (fr + 2 * i + 1)) b)) (rV F) := by
  have e6 : (6 : Int32) = zI 6 := by decide
  intro m
  induction m with
  | zero =>
    intro b hb
    have hb : b = 6 := by omega
    subst hb
    have e1 : zI (fr : Int) + 13 - 1 = zI ((fr + 12 : Nat) : Int) := by
      rw [show (13 : Int32) = zI 13 from by decide, show (1 : Int32) = zI 1 from by decide, zI_add, zI_sub]; congr 1; omega
    refine w_Ha_readFrom_39_16 _ _ ⟨fun _ => ?_, fun c => absurd (show (6 : Int32) ≤ zI ((6 : Nat) : Int) by decide) c⟩
    rw [e1]
    refine ⟨vp_N (by omega) (by omega), ?_⟩
    rw [zI_cN (by omega), sa_ne _ _ (by decide), sa_ne _ _ (by decide)]
    exact K
  | succ m ih =>
    intro b hb
    have hc : ¬ 6 ≤ zI (b : Int) := by rw [e6, zI_le (by omega) (by omega)]; omega
    have e2 : zI (fr : Int) + 2 * zI (b : Int) = zI ((fr + 2 * b : Nat) : Int) := by
      rw [show (2 : Int32) = zI 2 from by decide, zI_mul, zI_add]; rfl
    have e3 : zI ((fr + 2 * b : Nat) : Int) + 1 = zI ((fr + 2 * b + 1 : Nat) : Int) := zI_add _ 1
    have e4 : zI (b : Int) + 1 = zI ((b + 1 : Nat) : Int) := zI_add b 1
    refine w_Ha_readFrom_39_16 _ _ ⟨fun c => absurd c hc, fun _ => ?_⟩
    rw [e2, e3, e4]
    refine ⟨vp_N (by omega) (by omega), vp_N (by omega) (by omega), vp_N (by omega) (by omega), ?_⟩
    rw [zI_cN (by omega), zI_cN (by omega), zI_cN (by omega), sa_ne _ _ (by decide), sa_ne _ _ (by decide)]
    have hx : ∀ (hp : rx_Hp) (f g : Nat → Int32) (i : Nat) (v u : Int32), rx_pa (rx_pa (rx_se (rx_se hp 4 f) 5 g) 4 i v) 5 i u = rx_se (rx_se hp 4 (upd f i v)) 5 (upd g i u) := by
      intro hp f g i v u
      unfold rx_pa rx_se
      congr 2
      funext j
      by_cases h1 : j = 5
      · subst h1; simp
      · by_cases h2 : j = 4
        · subst h2; simp
        · simp [h1, h2]
    rw [hx]
    have a1 := rdP_s (hp.2.1 4) (fun i => hp.2.1 39 (fr + 2 * i)) b
    have a2 := rdP_s (hp.2.1 5) (fun i => hp.2.1 39 (fr + 2 * i + 1)) b
    rw [a1, a2]
    exact ih (b + 1) (by omega)
theorem l_write_16 {G : rx_Gh} {hp : rx_Hp} {F : rx_Hp → Prop} {fr : Nat} (hf : fr + 13 ≤ 520) (K : F (rx_se hp 16 (wrP (hp.2.1 16) fr (rowF (hp.2.1 13) (hp.2.1 14) (hp.1 0 26)) 13))) : ∀ (m b : Nat), b + m = 6 → Rn wM G 1 q_M_write 2 [some (.ref 0), some (.ref 16), some (.int (zI fr)), some (.int (zI b))] [] (rx_se hp 16 (wrP (hp.2.1 16) fr (rowF (hp.2.1 13) (hp.2.1 14) (hp.1 0 26)) (2 * b))) (rV F) := by
  have e6 : (6 : Int32) = zI 6 := by decide
  intro m
  induction m with
  | zero =>
    intro b hb
    have hb : b = 6 := by omega
    subst hb
    have e1 : zI (fr : Int) + 13 - 1 = zI ((fr + 12 : Nat) : Int) := by
      rw [show (13 : Int32) = zI 13 from by decide, show (1 : Int32) = zI 1 from by decide, zI_add, zI_sub]; congr 1; omega
    refine w_M_write_16_2 _ _ ⟨fun _ => ?_, fun c => absurd (show (6 : Int32) ≤ zI ((6 : Nat) : Int) by decide) c⟩
    rw [e1]
    refine ⟨vp_N (by omega) (by omega), ?_⟩
    rw [zI_cN (by omega), sa_pa, sa_f]
    have : upd (wrP (hp.2.1 16) fr (rowF (hp.2.1 13) (hp.2.1 14) (hp.1 0 26)) (2 * 6)) (fr + 12) (hp.1 0 26) = wrP (hp.2.1 16) fr (rowF (hp.2.1 13) (hp.2.1 14) (hp.1 0 26)) 13 := wrP_s _ _ (rowF (hp.2.1 13) (hp.2.1 14) (hp.1 0 26)) 12
    rw [this]
    exact K
  | succ m ih =>
    intro b hb
    have hc : ¬ 6 ≤ zI (b : Int) := by rw [e6, zI_le (by omega) (by omega)]; omega
    have e2 : zI (fr : Int) + 2 * zI (b : Int) = zI ((fr + 2 * b : Nat) : Int) := by
      rw [show (2 : Int32) = zI 2 from by decide, zI_mul, zI_add]; rfl
    have e3 : zI ((fr + 2 * b : Nat) : Int) + 1 = zI ((fr + 2 * b + 1 : Nat) : Int) := zI_add _ 1
    have e4 : zI (b : Int) + 1 = zI ((b + 1 : Nat) : Int) := zI_add b 1
    refine w_M_write_16_2 _ _ ⟨fun c => absurd c hc, fun _ => ?_⟩
    rw [e2, e3, e4]
    refine ⟨vp_N (by omega) (by omega), vp_N (by omega) (by omega), vp_N (by omega) (by omega), ?_⟩
    rw [zI_cN (by omega), zI_cN (by omega), zI_cN (by omega), sa_pa, sa_pa, sa_ne _ _ (by decide), sa_ne _ _ (by decide)]
    have a1 : upd (wrP (hp.2.1 16) fr (rowF (hp.2.1 13) (hp.2.1 14) (hp.1 0 26)) (2 * b)) (fr + 2 * b) (hp.2.1 13 b) = wrP (hp.2.1 16) fr (rowF (hp.2.1 13) (hp.2.1 14) (hp.1 0 26)) (2 * b + 1) := by
      have := wrP_s (hp.2.1 16) fr (rowF (hp.2.1 13) (hp.2.1 14) (hp.1 0 26)) (2 * b)
      rw [show rowF (hp.2.1 13) (hp.2.1 14) (hp.1 0 26) (2 * b) = hp.2.1 13 b by unfold rowF; rw [if_neg (by omega), if_pos (by omega), show 2 * b / 2 = b by omega]] at this
      exact this
    have a2 : upd (wrP (hp.2.1 16) fr (rowF (hp.2.1 13) (hp.2.1 14) (hp.1 0 26)) (2 * b + 1)) (fr + 2 * b + 1) (hp.2.1 14 b) = wrP (hp.2.1 16) fr (rowF (hp.2.1 13) (hp.2.1 14) (hp.1 0 26)) (2 * (b + 1)) := by
      have := wrP_s (hp.2.1 16) fr (rowF (hp.2.1 13) (hp.2.1 14) (hp.1 0 26)) (2 * b + 1)
      rw [show rowF (hp.2.1 13) (hp.2.1 14) (hp.1 0 26) (2 * b + 1) = hp.2.1 14 b by unfold rowF; rw [if_neg (by omega), if_neg (by omega), show (2 * b + 1) / 2 = b by omega]] at this
      exact this
    rw [a1, a2]
    exact ih (b + 1) (by omega)
theorem l_read_16 {G : rx_Gh} {hp : rx_Hp} {F : rx_Hp → Prop} {fr : Nat} (hf : fr + 13 ≤ 520) (K : F (rx_pf (rx_se (rx_se hp 13 (rdP (hp.2.1 13) (fun i => hp.2.1 16 (fr + 2 * i)) 6)) 14 (rdP (hp.2.1 14) (fun i => hp.2.1 16 (fr + 2 * i + 1)) 6)) 0 26 (hp.2.1 16 (fr + 12)))) : ∀ (m b : Nat), b + m = 6 → Rn wM G 1 q_M_read 2 [some (.ref 0), some (.ref 16), some (.int (zI fr)), some (.int (zI b))] [] (rx_se (rx_se hp 13 (rdP (hp.2.1 13) (fun i => hp.2.1 16 (fr + 2 * i)) b)) 14 (rdP (hp.2.1 14) (fun i => hp.2.1 16 (fr + 2 * i + 1)) b)) (rV F) := by
  have e6 : (6 : Int32) = zI 6 := by decide
  intro m
  induction m with
  | zero =>
    intro b hb
    have hb : b = 6 := by omega
    subst hb
    have e1 : zI (fr : Int) + 13 - 1 = zI ((fr + 12 : Nat) : Int) := by
      rw [show (13 : Int32) = zI 13 from by decide, show (1 : Int32) = zI 1 from by decide, zI_add, zI_sub]; congr 1; omega
    refine w_M_read_16_2 _ _ ⟨fun _ => ?_, fun c => absurd (show (6 : Int32) ≤ zI ((6 : Nat) : Int) by decide) c⟩
    rw [e1]
    refine ⟨vp_N (by omega) (by omega), ?_⟩
    rw [zI_cN (by omega), sa_ne _ _ (by decide), sa_ne _ _ (by decide)]
    exact K
  | succ m ih =>
    intro b hb
    have hc : ¬ 6 ≤ zI (b : Int) := by rw [e6, zI_le (by omega) (by omega)]; omega
    have e2 : zI (fr : Int) + 2 * zI (b : Int) = zI ((fr + 2 * b : Nat) : Int) := by
      rw [show (2 : Int32) = zI 2 from by decide, zI_mul, zI_add]; rfl
    have e3 : zI ((fr + 2 * b : Nat) : Int) + 1 = zI ((fr + 2 * b + 1 : Nat) : Int) := zI_add _ 1
    have e4 : zI (b : Int) + 1 = zI ((b + 1 : Nat) : Int) := zI_add b 1
    refine w_M_read_16_2 _ _ ⟨fun c => absurd c hc, fun _ => ?_⟩
    rw [e2, e3, e4]
    refine ⟨vp_N (by omega) (by omega), vp_N (by omega) (by omega), vp_N (by omega) (by omega), ?_⟩
    rw [zI_cN (by omega), zI_cN (by omega), zI_cN (by omega), sa_ne _ _ (by decide), sa_ne _ _ (by decide)]
    have hx : ∀ (hp : rx_Hp) (f g : Nat → Int32) (i : Nat) (v u : Int32), rx_pa (rx_pa (rx_se (rx_se hp 13 f) 14 g) 13 i v) 14 i u = rx_se (rx_se hp 13 (upd f i v)) 14 (upd g i u) := by
      intro hp f g i v u
      unfold rx_pa rx_se
      congr 2
      funext j
      by_cases h1 : j = 14
      · subst h1; simp
      · by_cases h2 : j = 13
        · subst h2; simp
        · simp [h1, h2]
    rw [hx]
    have a1 := rdP_s (hp.2.1 13) (fun i => hp.2.1 16 (fr + 2 * i)) b
    have a2 := rdP_s (hp.2.1 14) (fun i => hp.2.1 16 (fr + 2 * i + 1)) b
    rw [a1, a2]
    exact ih (b + 1) (by omega)
theorem l_write_23 {G : rx_Gh} {hp : rx_Hp} {F : rx_Hp → Prop} {fr : Nat} (hf : fr + 13 ≤ 13) (K : F (rx_se hp 23 (wrP (hp.2.1 23) fr (rowF (hp.2.1 13) (hp.2.1 14) (hp.1 0 26)) 13))) : ∀ (m b : Nat), b + m = 6 → Rn wM G 1 q_M_write 2 [some (.ref 0), some (.ref 23), some (.int (zI fr)), some (.int (zI b))] [] (rx_se hp 23 (wrP (hp.2.1 23) fr (rowF (hp.2.1 13) (hp.2.1 14) (hp.1 0 26)) (2 * b))) (rV F) := by
  have e6 : (6 : Int32) = zI 6 := by decide
  intro m
  induction m with
  | zero =>
    intro b hb
    have hb : b = 6 := by omega
    subst hb
    have e1 : zI (fr : Int) + 13 - 1 = zI ((fr + 12 : Nat) : Int) := by
      rw [show (13 : Int32) = zI 13 from by decide, show (1 : Int32) = zI 1 from by decide, zI_add, zI_sub]; congr 1; omega
    refine w_M_write_23_2 _ _ ⟨fun _ => ?_, fun c => absurd (show (6 : Int32) ≤ zI ((6 : Nat) : Int) by decide) c⟩
    rw [e1]
    refine ⟨vp_N (by omega) (by omega), ?_⟩
    rw [zI_cN (by omega), sa_pa, sa_f]
    have : upd (wrP (hp.2.1 23) fr (rowF (hp.2.1 13) (hp.2.1 14) (hp.1 0 26)) (2 * 6)) (fr + 12) (hp.1 0 26) = wrP (hp.2.1 23) fr (rowF (hp.2.1 13) (hp.2.1 14) (hp.1 0 26)) 13 := wrP_s _ _ (rowF (hp.2.1 13) (hp.2.1 14) (hp.1 0 26)) 12
    rw [this]
    exact K
  | succ m ih =>
    intro b hb
    have hc : ¬ 6 ≤ zI (b : Int) := by rw [e6, zI_le (by omega) (by omega)]; omega
    have e2 : zI (fr : Int) + 2 * zI (b : Int) = zI ((fr + 2 * b : Nat) : Int) := by
      rw [show (2 : Int32) = zI 2 from by decide, zI_mul, zI_add]; rfl
    have e3 : zI ((fr + 2 * b : Nat) : Int) + 1 = zI ((fr + 2 * b + 1 : Nat) : Int) := zI_add _ 1
    have e4 : zI (b : Int) + 1 = zI ((b + 1 : Nat) : Int) := zI_add b 1
    refine w_M_write_23_2 _ _ ⟨fun c => absurd c hc, fun _ => ?_⟩
    rw [e2, e3, e4]
    refine ⟨vp_N (by omega) (by omega), vp_N (by omega) (by omega), vp_N (by omega) (by omega), ?_⟩
    rw [zI_cN (by omega), zI_cN (by omega), zI_cN (by omega), sa_pa, sa_pa, sa_ne _ _ (by decide), sa_ne _ _ (by decide)]
    have a1 : upd (wrP (hp.2.1 23) fr (rowF (hp.2.1 13) (hp.2.1 14) (hp.1 0 26)) (2 * b)) (fr + 2 * b) (hp.2.1 13 b) = wrP (hp.2.1 23) fr (rowF (hp.2.1 13) (hp.2.1 14) (hp.1 0 26)) (2 * b + 1) := by
      have := wrP_s (hp.2.1 23) fr (rowF (hp.2.1 13) (hp.2.1 14) (hp.1 0 26)) (2 * b)
      rw [show rowF (hp.2.1 13) (hp.2.1 14) (hp.1 0 26) (2 * b) = hp.2.1 13 b by unfold rowF; rw [if_neg (by omega), if_pos (by omega), show 2 * b / 2 = b by omega]] at this
      exact this
    have a2 : upd (wrP (hp.2.1 23) fr (rowF (hp.2.1 13) (hp.2.1 14) (hp.1 0 26)) (2 * b + 1)) (fr + 2 * b + 1) (hp.2.1 14 b) = wrP (hp.2.1 23) fr (rowF (hp.2.1 13) (hp.2.1 14) (hp.1 0 26)) (2 * (b + 1)) := by
      have := wrP_s (hp.2.1 23) fr (rowF (hp.2.1 13) (hp.2.1 14) (hp.1 0 26)) (2 * b + 1)
      rw [show rowF (hp.2.1 13) (hp.2.1 14) (hp.1 0 26) (2 * b + 1) = hp.2.1 14 b by unfold rowF; rw [if_neg (by omega), if_neg (by omega), show (2 * b + 1) / 2 = b by omega]] at this
      exact this
    rw [a1, a2]
    exact ih (b + 1) (by omega)
theorem l_read_23 {G : rx_Gh} {hp : rx_Hp} {F : rx_Hp → Prop} {fr : Nat} (hf : fr + 13 ≤ 13) (K : F (rx_pf (rx_se (rx_se hp 13 (rdP (hp.2.1 13) (fun i => hp.2.1 23 (fr + 2 * i)) 6)) 14 (rdP (hp.2.1 14) (fun i => hp.2.1 23 (fr + 2 * i + 1)) 6)) 0 26 (hp.2.1 23 (fr + 12)))) : ∀ (m b : Nat), b + m = 6 → Rn wM G 1 q_M_read 2 [some (.ref 0), some (.ref 23), some (.int (zI fr)), some (.int (zI b))] [] (rx_se (rx_se hp 13 (rdP (hp.2.1 13) (fun i => hp.2.1 23 (fr + 2 * i)) b)) 14 (rdP (hp.2.1 14) (fun i => hp.2.1 23 (fr + 2 * i + 1)) b)) (rV F) := by
  have e6 : (6 : Int32) = zI 6 := by decide
  intro m
  induction m with
  | zero =>
    intro b hb
    have hb : b = 6 := by omega
    subst hb
    have e1 : zI (fr : Int) + 13 - 1 = zI ((fr + 12 : Nat) : Int) := by
      rw [show (13 : Int32) = zI 13 from by decide, show (1 : Int32) = zI 1 from by decide, zI_add, zI_sub]; congr 1; omega
    refine w_M_read_23_2 _ _ ⟨fun _ => ?_, fun c => absurd (show (6 : Int32) ≤ zI ((6 : Nat) : Int) by decide) c⟩
    rw [e1]
    refine ⟨vp_N (by omega) (by omega), ?_⟩
    rw [zI_cN (by omega), sa_ne _ _ (by decide), sa_ne _ _ (by decide)]
    exact K
  | succ m ih =>
    intro b hb
    have hc : ¬ 6 ≤ zI (b : Int) := by rw [e6, zI_le (by omega) (by omega)]; omega
    have e2 : zI (fr : Int) + 2 * zI (b : Int) = zI ((fr + 2 * b : Nat) : Int) := by
      rw [show (2 : Int32) = zI 2 from by decide, zI_mul, zI_add]; rfl
    have e3 : zI ((fr + 2 * b : Nat) : Int) + 1 = zI ((fr + 2 * b + 1 : Nat) : Int) := zI_add _ 1
    have e4 : zI (b : Int) + 1 = zI ((b + 1 : Nat) : Int) := zI_add b 1
    refine w_M_read_23_2 _ _ ⟨fun c => absurd c hc, fun _ => ?_⟩
    rw [e2, e3, e4]
    refine ⟨vp_N (by omega) (by omega), vp_N (by omega) (by omega), vp_N (by omega) (by omega), ?_⟩
    rw [zI_cN (by omega), zI_cN (by omega), zI_cN (by omega), sa_ne _ _ (by decide), sa_ne _ _ (by decide)]
    have hx : ∀ (hp : rx_Hp) (f g : Nat → Int32) (i : Nat) (v u : Int32), rx_pa (rx_pa (rx_se (rx_se hp 13 f) 14 g) 13 i v) 14 i u = rx_se (rx_se hp 13 (upd f i v)) 14 (upd g i u) := by
      intro hp f g i v u
      unfold rx_pa rx_se
      congr 2
      funext j
      by_cases h1 : j = 14
      · subst h1; simp
      · by_cases h2 : j = 13
        · subst h2; simp
        · simp [h1, h2]
    rw [hx]
    have a1 := rdP_s (hp.2.1 13) (fun i => hp.2.1 23 (fr + 2 * i)) b
    have a2 := rdP_s (hp.2.1 14) (fun i => hp.2.1 23 (fr + 2 * i + 1)) b
    rw [a1, a2]
    exact ih (b + 1) (by omega)
def p_Ha_writeTo_38 (a2 : Int32) : Prop := 0 ≤ a2.toInt ∧ a2.toInt + 13 ≤ 520
def g_Ha_writeTo_38 (a2 : Int32) (hp : rx_Hp) : rx_Hp := (rx_se hp 38 (wrP (hp.2.1 38) a2.toInt.toNat (rowF (hp.2.1 4) (hp.2.1 5) (hp.1 3 7)) 13))
theorem s_Ha_writeTo_38 {G : rx_Gh} {hp : rx_Hp} {F : rx_Hp → Prop} (a2 : Int32) (hP : p_Ha_writeTo_38 a2) (H0 : F (g_Ha_writeTo_38 a2 hp)) : Ev wC G 1 q_Ha_writeTo [.ref 3, .ref 38, .int a2] hp (rV F) := by
  obtain ⟨h1, h2⟩ := hP
  have hz := zI_N h1
  have c0 : ¬ a2 < 0 := by rw [show (0 : Int32) = zI 0 from by decide, i_lt a2 0 (by omega)]; omega
  have c1 : a2 + 13 ≤ 520 := by
    rw [hz, show (13 : Int32) = zI 13 from by decide, show (520 : Int32) = zI 520 from by decide, zI_add, zI_le (by omega) (by omega)]; omega
  refine w_Ha_writeTo_38 a2 ⟨fun c => absurd c c0, fun _ => ⟨fun _ => ?_, fun c => absurd c1 c⟩⟩
  have := l_writeTo_38 (G := G) (hp := hp) (F := F) (fr := a2.toInt.toNat) (by omega) H0 6 0 (by omega)
  rw [show 2 * 0 = 0 from rfl, wrP_0, sa_self] at this
  rw [hz]
  exact this
def p_Ha_readFrom_38 (a2 : Int32) : Prop := 0 ≤ a2.toInt ∧ a2.toInt + 13 ≤ 520
def g_Ha_readFrom_38 (a2 : Int32) (hp : rx_Hp) : rx_Hp := (rx_pf (rx_se (rx_se hp 4 (rdP (hp.2.1 4) (fun i => hp.2.1 38 (a2.toInt.toNat + 2 * i)) 6)) 5 (rdP (hp.2.1 5) (fun i => hp.2.1 38 (a2.toInt.toNat + 2 * i + 1)) 6)) 3 7 (hp.2.1 38 (a2.toInt.toNat + 12)))
theorem s_Ha_readFrom_38 {G : rx_Gh} {hp : rx_Hp} {F : rx_Hp → Prop} (a2 : Int32) (hP : p_Ha_readFrom_38 a2) (H0 : F (g_Ha_readFrom_38 a2 hp)) : Ev wC G 1 q_Ha_readFrom [.ref 3, .ref 38, .int a2] hp (rV F) := by
  obtain ⟨h1, h2⟩ := hP
  have hz := zI_N h1
  have c0 : ¬ a2 < 0 := by rw [show (0 : Int32) = zI 0 from by decide, i_lt a2 0 (by omega)]; omega
  have c1 : a2 + 13 ≤ 520 := by
    rw [hz, show (13 : Int32) = zI 13 from by decide, show (520 : Int32) = zI 520 from by decide, zI_add, zI_le (by omega) (by omega)]; omega
  refine w_Ha_readFrom_38 a2 ⟨fun c => absurd c c0, fun _ => ⟨fun _ => ?_, fun c => absurd c1 c⟩⟩
  have := l_readFrom_38 (G := G) (hp := hp) (F := F) (fr := a2.toInt.toNat) (by omega) H0 6 0 (by omega)
  rw [rdP_0, rdP_0, sa_self, sa_self] at this
  rw [hz]
  exact this
def p_Ha_writeTo_39 (a2 : Int32) : Prop := 0 ≤ a2.toInt ∧ a2.toInt + 13 ≤ 13
def g_Ha_writeTo_39 (a2 : Int32) (hp : rx_Hp) : rx_Hp := (rx_se hp 39 (wrP (hp.2.1 39) a2.toInt.toNat (rowF (hp.2.1 4) (hp.2.1 5) (hp.1 3 7)) 13))
theorem s_Ha_writeTo_39 {G : rx_Gh} {hp : rx_Hp} {F : rx_Hp → Prop} (a2 : Int32) (hP : p_Ha_writeTo_39 a2) (H0 : F (g_Ha_writeTo_39 a2 hp)) : Ev wC G 1 q_Ha_writeTo [.ref 3, .ref 39, .int a2] hp (rV F) := by
  obtain ⟨h1, h2⟩ := hP
  have hz := zI_N h1
  have c0 : ¬ a2 < 0 := by rw [show (0 : Int32) = zI 0 from by decide, i_lt a2 0 (by omega)]; omega
  have c1 : a2 + 13 ≤ 13 := by
    rw [hz, show (13 : Int32) = zI 13 from by decide, zI_add, zI_le (by omega) (by omega)]; omega
  refine w_Ha_writeTo_39 a2 ⟨fun c => absurd c c0, fun _ => ⟨fun _ => ?_, fun c => absurd c1 c⟩⟩
  have := l_writeTo_39 (G := G) (hp := hp) (F := F) (fr := a2.toInt.toNat) (by omega) H0 6 0 (by omega)
  rw [show 2 * 0 = 0 from rfl, wrP_0, sa_self] at this
  rw [hz]
  exact this
def p_Ha_readFrom_39 (a2 : Int32) : Prop := 0 ≤ a2.toInt ∧ a2.toInt + 13 ≤ 13
def g_Ha_readFrom_39 (a2 : Int32) (hp : rx_Hp) : rx_Hp := (rx_pf (rx_se (rx_se hp 4 (rdP (hp.2.1 4) (fun i => hp.2.1 39 (a2.toInt.toNat + 2 * i)) 6)) 5 (rdP (hp.2.1 5) (fun i => hp.2.1 39 (a2.toInt.toNat + 2 * i + 1)) 6)) 3 7 (hp.2.1 39 (a2.toInt.toNat + 12)))
theorem s_Ha_readFrom_39 {G : rx_Gh} {hp : rx_Hp} {F : rx_Hp → Prop} (a2 : Int32) (hP : p_Ha_readFrom_39 a2) (H0 : F (g_Ha_readFrom_39 a2 hp)) : Ev wC G 1 q_Ha_readFrom [.ref 3, .ref 39, .int a2] hp (rV F) := by
  obtain ⟨h1, h2⟩ := hP
  have hz := zI_N h1
  have c0 : ¬ a2 < 0 := by rw [show (0 : Int32) = zI 0 from by decide, i_lt a2 0 (by omega)]; omega
  have c1 : a2 + 13 ≤ 13 := by
    rw [hz, show (13 : Int32) = zI 13 from by decide, zI_add, zI_le (by omega) (by omega)]; omega
  refine w_Ha_readFrom_39 a2 ⟨fun c => absurd c c0, fun _ => ⟨fun _ => ?_, fun c => absurd c1 c⟩⟩
  have := l_readFrom_39 (G := G) (hp := hp) (F := F) (fr := a2.toInt.toNat) (by omega) H0 6 0 (by omega)
  rw [rdP_0, rdP_0, sa_self, sa_self] at this
  rw [hz]
  exact this
def p_M_write_16 (a2 : Int32) : Prop := 0 ≤ a2.toInt ∧ a2.toInt + 13 ≤ 520
def g_M_write_16 (a2 : Int32) (hp : rx_Hp) : rx_Hp := (rx_se hp 16 (wrP (hp.2.1 16) a2.toInt.toNat (rowF (hp.2.1 13) (hp.2.1 14) (hp.1 0 26)) 13))
theorem s_M_write_16 {G : rx_Gh} {hp : rx_Hp} {F : rx_Hp → Prop} (a2 : Int32) (hP : p_M_write_16 a2) (H0 : F (g_M_write_16 a2 hp)) : Ev wM G 1 q_M_write [.ref 0, .ref 16, .int a2] hp (rV F) := by
  obtain ⟨h1, h2⟩ := hP
  have hz := zI_N h1
  refine w_M_write_16 a2 ?_
  have := l_write_16 (G := G) (hp := hp) (F := F) (fr := a2.toInt.toNat) (by omega) H0 6 0 (by omega)
  rw [show 2 * 0 = 0 from rfl, wrP_0, sa_self] at this
  rw [hz]
  exact this
def p_M_read_16 (a2 : Int32) : Prop := 0 ≤ a2.toInt ∧ a2.toInt + 13 ≤ 520
def g_M_read_16 (a2 : Int32) (hp : rx_Hp) : rx_Hp := (rx_pf (rx_se (rx_se hp 13 (rdP (hp.2.1 13) (fun i => hp.2.1 16 (a2.toInt.toNat + 2 * i)) 6)) 14 (rdP (hp.2.1 14) (fun i => hp.2.1 16 (a2.toInt.toNat + 2 * i + 1)) 6)) 0 26 (hp.2.1 16 (a2.toInt.toNat + 12)))
theorem s_M_read_16 {G : rx_Gh} {hp : rx_Hp} {F : rx_Hp → Prop} (a2 : Int32) (hP : p_M_read_16 a2) (H0 : F (g_M_read_16 a2 hp)) : Ev wM G 1 q_M_read [.ref 0, .ref 16, .int a2] hp (rV F) := by
  obtain ⟨h1, h2⟩ := hP
  have hz := zI_N h1
  refine w_M_read_16 a2 ?_
  have := l_read_16 (G := G) (hp := hp) (F := F) (fr := a2.toInt.toNat) (by omega) H0 6 0 (by omega)
  rw [rdP_0, rdP_0, sa_self, sa_self] at this
  rw [hz]
  exact this
def p_M_write_23 (a2 : Int32) : Prop := 0 ≤ a2.toInt ∧ a2.toInt + 13 ≤ 13
def g_M_write_23 (a2 : Int32) (hp : rx_Hp) : rx_Hp := (rx_se hp 23 (wrP (hp.2.1 23) a2.toInt.toNat (rowF (hp.2.1 13) (hp.2.1 14) (hp.1 0 26)) 13))
theorem s_M_write_23 {G : rx_Gh} {hp : rx_Hp} {F : rx_Hp → Prop} (a2 : Int32) (hP : p_M_write_23 a2) (H0 : F (g_M_write_23 a2 hp)) : Ev wM G 1 q_M_write [.ref 0, .ref 23, .int a2] hp (rV F) := by
  obtain ⟨h1, h2⟩ := hP
  have hz := zI_N h1
  refine w_M_write_23 a2 ?_
  have := l_write_23 (G := G) (hp := hp) (F := F) (fr := a2.toInt.toNat) (by omega) H0 6 0 (by omega)
  rw [show 2 * 0 = 0 from rfl, wrP_0, sa_self] at this
  rw [hz]
  exact this
def p_M_read_23 (a2 : Int32) : Prop := 0 ≤ a2.toInt ∧ a2.toInt + 13 ≤ 13
def g_M_read_23 (a2 : Int32) (hp : rx_Hp) : rx_Hp := (rx_pf (rx_se (rx_se hp 13 (rdP (hp.2.1 13) (fun i => hp.2.1 23 (a2.toInt.toNat + 2 * i)) 6)) 14 (rdP (hp.2.1 14) (fun i => hp.2.1 23 (a2.toInt.toNat + 2 * i + 1)) 6)) 0 26 (hp.2.1 23 (a2.toInt.toNat + 12)))
theorem s_M_read_23 {G : rx_Gh} {hp : rx_Hp} {F : rx_Hp → Prop} (a2 : Int32) (hP : p_M_read_23 a2) (H0 : F (g_M_read_23 a2 hp)) : Ev wM G 1 q_M_read [.ref 0, .ref 23, .int a2] hp (rV F) := by
  obtain ⟨h1, h2⟩ := hP
  have hz := zI_N h1
  refine w_M_read_23 a2 ?_
  have := l_read_23 (G := G) (hp := hp) (F := F) (fr := a2.toInt.toNat) (by omega) H0 6 0 (by omega)
  rw [rdP_0, rdP_0, sa_self, sa_self] at this
  rw [hz]
  exact this

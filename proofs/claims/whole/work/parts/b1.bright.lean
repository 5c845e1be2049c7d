/-! brighter, both sides -/
section BRT
variable {S : Gs}
def bqN (S : Gs) (e : Nat) (x : Int32) (b : Nat) (i j : Int) : Nat := if zI (ltV S.t S.hd S.Lt i j (farI S.w S.h S.X S.Y e b i j)) < x then 0 else 1
def bqR (S : Gs) (e : Nat) (x : Int32) (b : Nat) (i : Int) : Nat := sumUp (bqN S e x b i) (loC (S.g / 4)) (lnC (S.g / 4))
def bqB (S : Gs) (e : Nat) (x : Int32) (b : Int) : Nat := sumUp (bqR S e x b.toNat) (loC (S.g % 4)) (lnC (S.g % 4))
def bqM (S : Gs) (e : Nat) (x : Int32) (b : Nat) (i j : Int) : Nat := if thI S.g i j = true then bqN S e x b i j else 0
def bqF : List Nat := [35, 36, 41, 42]
theorem bqM_eq (e : Nat) (x : Int32) (b : Nat) : sumUp (fun i => sumUp (bqM S e x b i) (-10) 21) (-10) 21 = bqB S e x b := by
  have b1 := loC_bd (S.g % 4)
  have b2 := hiC_bd (S.g % 4)
  have b3 := loC_bd (S.g / 4)
  have b4 := hiC_bd (S.g / 4)
  have z1 := lnC_z (S.g % 4)
  have z2 := lnC_z (S.g / 4)
  unfold bqB
  rw [sumUp_mid (b := loC (S.g % 4)) (m := lnC (S.g % 4)) (by omega) (by omega)]
  · refine sumUp_congr _ _ (fun i i1 i2 => ?_)
    unfold bqR
    rw [sumUp_mid (b := loC (S.g / 4)) (m := lnC (S.g / 4)) (by omega) (by omega)]
    · refine sumUp_congr _ _ (fun j j1 j2 => ?_)
      unfold bqM
      rw [if_pos (by unfold thI; simp; omega)]; rfl
    · intro j j1 j2; unfold bqM; rw [if_neg (by unfold thI; simp; omega)]
    · intro j j1 j2; unfold bqM; rw [if_neg (by unfold thI; simp; omega)]
  · intro i i1 i2
    exact sumUp_zero _ _ (fun j _ _ => by unfold bqM; rw [if_neg (by unfold thI; simp; omega)])
  · intro i i1 i2
    exact sumUp_zero _ _ (fun j _ _ => by unfold bqM; rw [if_neg (by unfold thI; simp; omega)])
theorem bj_c {G : rx_Gh} {F : Int32 → rx_Hp → Prop} (ok : ROk S) {e b : Nat} (he : e < S.nb) (hb : b < S.nb) {hc : rx_Hp} (r : RC S hc) (x : Int32) {i : Int} (hi : loC (S.g % 4) ≤ i ∧ i ≤ hiC (S.g % 4)) : ∀ (m : Nat) (j : Int) (s : Nat) (hp : rx_Hp), j + m = hiC (S.g / 4) + 1 → loC (S.g / 4) ≤ j → Fr diF bqF hc hp → MS S.w S.h S.g S.X S.Y e b hp → (∀ h', Fr diF bqF hc h' → MS S.w S.h S.g S.X S.Y e b h' → Rn wC G 6 q_GR_brighter 49 [some (.ref 0), some (.int (zI e)), some (.int x), some (.int (zI ((s + sumUp (bqN S e x b i) j m : Nat) : Int))), some (.int (zI b)), some (.int (zI (i + 1))), none] [] h' (rI F)) → Rn wC G 6 q_GR_brighter 70 [some (.ref 0), some (.int (zI e)), some (.int x), some (.int (zI (s : Nat))), some (.int (zI b)), some (.int (zI i)), some (.int (zI j))] [] hp (rI F) := by
  have b1 := loC_bd (S.g % 4)
  have b2 := hiC_bd (S.g % 4)
  have b3 := loC_bd (S.g / 4)
  have b4 := hiC_bd (S.g / 4)
  intro m
  induction m with
  | zero =>
    intro j s hp hj hl f M K
    have hcn : hp.1 40 6 < zI j := by rw [M.1.2.2.2, zI_lt (by omega) (by omega)]; omega
    refine w_GR_brighter_70 _ _ _ _ _ _ ⟨fun _ => ?_, fun c => absurd hcn c⟩
    rw [show zI i + 1 = zI (i + 1) from zI_add i 1]
    exact K hp f M
  | succ m ih =>
    intro j s hp hj hl f M K
    have hcn : ¬ hp.1 40 6 < zI j := by rw [M.1.2.2.2, zI_lt (by omega) (by omega)]; omega
    have rp := r.fr ok f
    have bd := nrF_bd ok.h hb he (i := i) (j := j) (by omega) (by omega)
    refine w_GR_brighter_70 _ _ _ _ _ _ ⟨fun c => absurd c hcn, fun _ => ?_⟩
    unfold p_Di_farAt f_Di_farAt
    rw [show zI j + 10 = zI (j + 10) from zI_add j 10, show zI j + 1 = zI (j + 1) from zI_add j 1, show zI i + 10 = zI (i + 10) from zI_add i 10, zI_clamp (by omega) (by omega), zI_clamp (by omega) (by omega), M.2.2 j hl (by omega), M.2.1 i hi.1 hi.2, zI_add, ← nrF_eq]
    refine ⟨⟨vp_in_zI (by omega) (by omega) (by omega), vp_in_zI (by omega) (by omega) (by omega)⟩, ?_⟩
    refine wof_c ok.h (by omega) ok.l ok.g rp.h rp.l rp.g (by omega) (by omega) bd (fun h' f' => ?_)
    have es : (if zI (ltV S.t S.hd S.Lt i j (nrF S.w S.h S.X S.Y e b (i, j))) < x then zI (s : Int) else zI (s : Int) + 1) = zI ((s + bqN S e x b i j : Nat) : Int) := by
      unfold bqN
      show (if zI (ltV S.t S.hd S.Lt i j (farI S.w S.h S.X S.Y e b i j)) < x then zI (s : Int) else zI (s : Int) + 1) = _
      by_cases q : zI (ltV S.t S.hd S.Lt i j (farI S.w S.h S.X S.Y e b i j)) < x
      · rw [if_pos q, if_pos q, Nat.add_zero]
      · rw [if_neg q, if_neg q]; exact zI_add _ 1
    rw [es]
    refine ih (j + 1) (s + bqN S e x b i j) h' (by omega) (by omega) (f.tr (f'.mono (by decide) (by decide))) (M.fr f') (fun h2 f2 M2 => ?_)
    have := K h2 f2 M2
    rw [sumUp, ← Nat.add_assoc] at this
    exact this
theorem bi_c {G : rx_Gh} {F : Int32 → rx_Hp → Prop} (ok : ROk S) {e b : Nat} (he : e < S.nb) (hb : b < S.nb) {hc : rx_Hp} (r : RC S hc) (x : Int32) : ∀ (m : Nat) (i : Int) (s : Nat) (hp : rx_Hp), i + m = hiC (S.g % 4) + 1 → loC (S.g % 4) ≤ i → Fr diF bqF hc hp → MS S.w S.h S.g S.X S.Y e b hp → (∀ h', Fr diF bqF hc h' → Rn wC G 6 q_GR_brighter 18 [some (.ref 0), some (.int (zI e)), some (.int x), some (.int (zI ((s + sumUp (bqR S e x b) i m : Nat) : Int))), some (.int (zI ((b + 1 : Nat) : Int))), none, none] [] h' (rI F)) → Rn wC G 6 q_GR_brighter 49 [some (.ref 0), some (.int (zI e)), some (.int x), some (.int (zI (s : Nat))), some (.int (zI b)), some (.int (zI i)), none] [] hp (rI F) := by
  have b1 := loC_bd (S.g % 4)
  have b2 := hiC_bd (S.g % 4)
  have z2 := lnC_z (S.g / 4)
  intro m
  induction m with
  | zero =>
    intro i s hp hj hl f M K
    have hcn : hp.1 40 4 < zI i := by rw [M.1.2.1, zI_lt (by omega) (by omega)]; omega
    refine w_GR_brighter_49 _ _ _ _ _ ⟨fun _ => ?_, fun c => absurd hcn c⟩
    rw [show zI (b : Int) + 1 = zI ((b + 1 : Nat) : Int) from zI_add _ 1]
    exact K hp f
  | succ m ih =>
    intro i s hp hj hl f M K
    have hcn : ¬ hp.1 40 4 < zI i := by rw [M.1.2.1, zI_lt (by omega) (by omega)]; omega
    refine w_GR_brighter_49 _ _ _ _ _ ⟨fun c => absurd c hcn, fun _ => ?_⟩
    rw [M.1.2.2.1]
    refine bj_c ok he hb r x ⟨hl, by omega⟩ (lnC (S.g / 4)) (loC (S.g / 4)) s hp (by omega) (by omega) f M (fun h' f' M' => ?_)
    refine ih (i + 1) (s + bqR S e x b i) h' (by omega) (by omega) f' M' (fun h2 f2 => ?_)
    have := K h2 f2
    rw [sumUp, ← Nat.add_assoc] at this
    exact this
theorem bb_c {G : rx_Gh} {F : Int32 → rx_Hp → Prop} (ok : ROk S) {e : Nat} (he : e < S.nb) {hc : rx_Hp} (r : RC S hc) (x : Int32) : ∀ (m b s : Nat) (hp : rx_Hp), b + m = S.nb → Fr diF bqF hc hp → (∀ h', Fr diF bqF hc h' → F (zI ((s + sumUp (bqB S e x) b m : Nat) : Int)) h') → Rn wC G 6 q_GR_brighter 18 [some (.ref 0), some (.int (zI e)), some (.int x), some (.int (zI (s : Nat))), some (.int (zI (b : Nat))), none, none] [] hp (rI F) := by
  have h6 := ok.h.1
  have z1 := lnC_z (S.g % 4)
  intro m
  induction m with
  | zero =>
    intro b s hp hb f K
    have rp := r.fr ok f
    have hcn : hp.1 3 4 ≤ zI (b : Int) := by rw [rp.h.1.1, zI_le (by omega) (by omega)]; omega
    exact w_GR_brighter_18 _ _ _ _ ⟨fun _ => K hp f, fun c => absurd hcn c⟩
  | succ m ih =>
    intro b s hp hb f K
    have rp := r.fr ok f
    have hcn : ¬ hp.1 3 4 ≤ zI (b : Int) := by rw [rp.h.1.1, zI_le (by omega) (by omega)]; omega
    refine w_GR_brighter_18 _ _ _ _ ⟨fun c => absurd c hcn, fun _ => ?_⟩
    refine ms_c ok.h (show b < S.nb by omega) he rp.h (fun h1 f1 M => ?_)
    rw [M.1.1]
    refine bi_c ok he (show b < S.nb by omega) r x (lnC (S.g % 4)) (loC (S.g % 4)) s h1 (by omega) (by omega) (f.tr (f1.mono (fun _ z => z) (by decide))) M (fun h2 f2 => ?_)
    refine ih (b + 1) _ h2 (by omega) f2 (fun h3 f3 => ?_)
    have := K h3 f3
    rw [sumUp, ← Nat.add_assoc] at this
    exact this
theorem bj_m {G : rx_Gh} {F : Int32 → rx_Hp → Prop} (ok : ROk S) {e b : Nat} (he : e < S.nb) (hb : b < S.nb) {hm : rx_Hp} (r : RM S hm) (x : Int32) {i : Int} (hi : -10 ≤ i ∧ i ≤ 10) : ∀ (m : Nat) (j : Int) (s : Nat) (hp : rx_Hp), j + m = 11 → -10 ≤ j → Fr [] [9, 10] hm hp → (∀ h', Fr [] [9, 10] hm h' → Rn wM G 7 q_M_brighter 28 [some (.ref 0), some (.int (zI e)), some (.int x), some (.int (zI ((s + sumUp (bqM S e x b i) j m : Nat) : Int))), some (.int (zI b)), some (.int (zI (i + 1))), none] [] h' (rI F)) → Rn wM G 7 q_M_brighter 39 [some (.ref 0), some (.int (zI e)), some (.int x), some (.int (zI (s : Nat))), some (.int (zI b)), some (.int (zI i)), some (.int (zI j))] [] hp (rI F) := by
  intro m
  induction m with
  | zero =>
    intro j s hp hj hl f K
    have hcn : 10 < zI j := by rw [show (10 : Int32) = zI 10 from by decide, zI_lt (by omega) (by omega)]; omega
    refine w_M_brighter_39 _ _ _ _ _ _ ⟨fun _ => ?_, fun c => absurd hcn c⟩
    rw [show zI i + 1 = zI (i + 1) from zI_add i 1]
    exact K hp f
  | succ m ih =>
    intro j s hp hj hl f K
    have hcn : ¬ 10 < zI j := by rw [show (10 : Int32) = zI 10 from by decide, zI_lt (by omega) (by omega)]; omega
    have rp := r.fr f
    refine w_M_brighter_39 _ _ _ _ _ _ ⟨fun c => absurd c hcn, fun _ => ?_⟩
    rw [there_m ok.h.2.2.2.1 hi.1 hi.2 (by omega) (by omega) rp.h.1.2.2.2.1, show zI j + 1 = zI (j + 1) from zI_add j 1]
    refine ⟨fun c => ?_, fun c => ?_⟩
    · have q := (b2_0 _).mp c
      rw [show zI (s : Int) + 0 = zI ((s + bqM S e x b i j : Nat) : Int) from by unfold bqM; rw [q, if_neg (by decide), Nat.add_zero]; exact (zI_add _ 0).trans (by rw [Int.add_zero])]
      refine ih (j + 1) _ hp (by omega) (by omega) f (fun h2 f2 => ?_)
      have := K h2 f2
      rw [sumUp, ← Nat.add_assoc] at this
      exact this
    · have q := b2_t c
      refine lat_m ok.h ok.l ok.g rp.h rp.l rp.g hb he hi (by omega) (fun h' f' => ?_)
      have es : zI (s : Int) + ((if zI (ltV S.t S.hd S.Lt i j (farI S.w S.h S.X S.Y e b i j)) < x then 0 else 1) : Int32) = zI ((s + bqM S e x b i j : Nat) : Int) := by
        unfold bqM bqN
        rw [if_pos q]
        by_cases q : zI (ltV S.t S.hd S.Lt i j (farI S.w S.h S.X S.Y e b i j)) < x
        · rw [if_pos q, if_pos q, Nat.add_zero]; exact (zI_add _ 0).trans (by rw [Int.add_zero])
        · rw [if_neg q, if_neg q]; exact zI_add _ 1
      rw [es]
      refine ih (j + 1) _ h' (by omega) (by omega) (f.tr f') (fun h2 f2 => ?_)
      have := K h2 f2
      rw [sumUp, ← Nat.add_assoc] at this
      exact this
theorem bi_m {G : rx_Gh} {F : Int32 → rx_Hp → Prop} (ok : ROk S) {e b : Nat} (he : e < S.nb) (hb : b < S.nb) {hm : rx_Hp} (r : RM S hm) (x : Int32) : ∀ (m : Nat) (i : Int) (s : Nat) (hp : rx_Hp), i + m = 11 → -10 ≤ i → Fr [] [9, 10] hm hp → (∀ h', Fr [] [9, 10] hm h' → Rn wM G 7 q_M_brighter 15 [some (.ref 0), some (.int (zI e)), some (.int x), some (.int (zI ((s + sumUp (fun i => sumUp (bqM S e x b i) (-10) 21) i m : Nat) : Int))), some (.int (zI ((b + 1 : Nat) : Int))), none, none] [] h' (rI F)) → Rn wM G 7 q_M_brighter 28 [some (.ref 0), some (.int (zI e)), some (.int x), some (.int (zI (s : Nat))), some (.int (zI b)), some (.int (zI i)), none] [] hp (rI F) := by
  intro m
  induction m with
  | zero =>
    intro i s hp hj hl f K
    have hcn : 10 < zI i := by rw [show (10 : Int32) = zI 10 from by decide, zI_lt (by omega) (by omega)]; omega
    refine w_M_brighter_28 _ _ _ _ _ ⟨fun _ => ?_, fun c => absurd hcn c⟩
    rw [show zI (b : Int) + 1 = zI ((b + 1 : Nat) : Int) from zI_add _ 1]
    exact K hp f
  | succ m ih =>
    intro i s hp hj hl f K
    have hcn : ¬ 10 < zI i := by rw [show (10 : Int32) = zI 10 from by decide, zI_lt (by omega) (by omega)]; omega
    refine w_M_brighter_28 _ _ _ _ _ ⟨fun c => absurd c hcn, fun _ => ?_⟩
    rw [show (-10 : Int32) = zI (-10) from by decide]
    refine bj_m ok he hb r x ⟨hl, by omega⟩ 21 (-10) s hp (by omega) (by omega) f (fun h' f' => ?_)
    refine ih (i + 1) _ h' (by omega) (by omega) f' (fun h2 f2 => ?_)
    have := K h2 f2
    rw [sumUp, ← Nat.add_assoc] at this
    exact this
theorem bb_m {G : rx_Gh} {F : Int32 → rx_Hp → Prop} (ok : ROk S) {e : Nat} (he : e < S.nb) {hm : rx_Hp} (r : RM S hm) (x : Int32) : ∀ (m b s : Nat) (hp : rx_Hp), b + m = S.nb → Fr [] [9, 10] hm hp → (∀ h', Fr [] [9, 10] hm h' → F (zI ((s + sumUp (bqB S e x) b m : Nat) : Int)) h') → Rn wM G 7 q_M_brighter 15 [some (.ref 0), some (.int (zI e)), some (.int x), some (.int (zI (s : Nat))), some (.int (zI (b : Nat))), none, none] [] hp (rI F) := by
  have h6 := ok.h.1
  intro m
  induction m with
  | zero =>
    intro b s hp hb f K
    have rp := r.fr f
    have hcn : hp.1 0 23 ≤ zI (b : Int) := by rw [rp.h.1.1, zI_le (by omega) (by omega)]; omega
    exact w_M_brighter_15 _ _ _ _ ⟨fun _ => K hp f, fun c => absurd hcn c⟩
  | succ m ih =>
    intro b s hp hb f K
    have rp := r.fr f
    have hcn : ¬ hp.1 0 23 ≤ zI (b : Int) := by rw [rp.h.1.1, zI_le (by omega) (by omega)]; omega
    refine w_M_brighter_15 _ _ _ _ ⟨fun c => absurd c hcn, fun _ => ?_⟩
    rw [show (-10 : Int32) = zI (-10) from by decide]
    refine bi_m ok he (show b < S.nb by omega) r x 21 (-10) s hp (by omega) (by omega) f (fun h2 f2 => ?_)
    rw [bqM_eq]
    refine ih (b + 1) _ h2 (by omega) f2 (fun h3 f3 => ?_)
    have := K h3 f3
    rw [sumUp, ← Nat.add_assoc] at this
    exact this
theorem t_brighter (ok : ROk S) (a x : Int32) : Pd 6 7 q_GR_brighter q_M_brighter [.int a, .int x] S := by
  have h6 := ok.h.1
  refine ⟨if isB S.nb a then zI ((0 + sumUp (bqB S a.toInt.toNat x) ((0 : Nat) : Int) S.nb : Nat) : Int) else -1, S, ok, fun G hc r => ?_, fun G hm r => ?_⟩
  · refine w_GR_brighter a x ?_
    rw [has_c h6 r.h.1.1]
    refine ⟨fun c => ?_, fun c => ?_⟩
    · rw [(b2_0 _).mp c]; exact ⟨rfl, r⟩
    · have q := b2_t c
      rw [q]
      obtain ⟨e, k, rfl⟩ := isB_of q
      rw [zI_back (by omega)]
      exact bb_c ok k r x S.nb 0 0 hc (by omega) Fr.rf (fun h' f => ⟨rfl, r.fr ok f⟩)
  · refine w_M_brighter a x ?_
    rw [isB_m h6 r.h.1.1]
    refine ⟨fun c => ?_, fun c => ?_⟩
    · rw [(b2_0 _).mp c]; exact ⟨rfl, r⟩
    · have q := b2_t c
      rw [q]
      obtain ⟨e, k, rfl⟩ := isB_of q
      rw [zI_back (by omega)]
      exact bb_m ok k r x S.nb 0 0 hm (by omega) Fr.rf (fun h' f => ⟨rfl, r.fr f⟩)
end BRT

/-! the model's reader of lights: atoms, terms, sums -/
def MTk (r : Nat) (T : List Tk) (hm : rx_Hp) : Prop := hm.1 0 14 = zI r ∧ hm.2.1 4 r = zI (T.length : Nat) ∧ ∀ i t, T[i]? = some t → hm.2.1 2 (340 * r + i) = zI (t.1 : Nat) ∧ hm.2.1 3 (340 * r + i) = zI (t.2 : Nat)
def MBd (r b : Nat) (hm : rx_Hp) : Prop := hm.1 0 14 = zI r ∧ ∃ c : Nat, c ≤ b ∧ hm.2.1 4 r = zI c
def mlF : List (Nat × Nat) := [(0, 3), (0, 4), (0, 5)]
def mfr (r : Nat) (a b : rx_Hp) : Prop := Fr mlF [2, 3, 4] a b ∧ (∀ i, ¬ (340 * r ≤ i ∧ i < 340 * r + 340) → b.2.1 2 i = a.2.1 2 i ∧ b.2.1 3 i = a.2.1 3 i) ∧ ∀ j, ¬ j = r → b.2.1 4 j = a.2.1 4 j
theorem mfr.tr {r : Nat} {a b c : rx_Hp} (h1 : mfr r a b) (h2 : mfr r b c) : mfr r a c := ⟨h1.1.tr h2.1, fun i hi => ⟨(h2.2.1 i hi).1.trans (h1.2.1 i hi).1, (h2.2.1 i hi).2.trans (h1.2.1 i hi).2⟩, fun j hj => (h2.2.2 j hj).trans (h1.2.2 j hj)⟩
theorem mfr.rf {r : Nat} {a : rx_Hp} : mfr r a a := ⟨Fr.rf, fun _ _ => ⟨rfl, rfl⟩, fun _ _ => rfl⟩
theorem mfr.of {r : Nat} {fs : List (Nat × Nat)} {a b : rx_Hp} (h : Fr fs [] a b) (hf : ∀ x ∈ fs, x ∈ mlF) : mfr r a b := ⟨h.mono hf (by simp), fun i _ => by rw [h.2.1 2 (by simp), h.2.1 3 (by simp)]; exact ⟨rfl, rfl⟩, fun j _ => by rw [h.2.1 4 (by simp)]⟩
theorem MTk.of {r : Nat} {T : List Tk} {fs : List (Nat × Nat)} {a b : rx_Hp} (h : MTk r T a) (f : Fr fs [] a b) (hf : (0, 14) ∉ fs := by decide) : MTk r T b := by
  obtain ⟨h1, h2, h3⟩ := h
  refine ⟨(f.1 _ _ hf).trans h1, by rw [f.2.1 4 (by simp)]; exact h2, fun i t ht => ?_⟩
  rw [f.2.1 2 (by simp), f.2.1 3 (by simp)]; exact h3 i t ht
theorem MBd.of {r c : Nat} {fs : List (Nat × Nat)} {a b : rx_Hp} (h : MBd r c a) (f : Fr fs [] a b) (hf : (0, 14) ∉ fs := by decide) : MBd r c b := by
  obtain ⟨h1, c', h2, h3⟩ := h
  exact ⟨(f.1 _ _ hf).trans h1, c', h2, by rw [f.2.1 4 (by simp)]; exact h3⟩
theorem MTk.bd {r : Nat} {T : List Tk} {hm : rx_Hp} (h : MTk r T hm) {b : Nat} (hb : T.length ≤ b) : MBd r b hm := ⟨h.1, T.length, hb, h.2.1⟩
theorem MBd.up {r b c : Nat} {hm : rx_Hp} (h : MBd r b hm) (hb : b ≤ c) : MBd r c hm := ⟨h.1, by obtain ⟨c', h2, h3⟩ := h.2; exact ⟨c', by omega, h3⟩⟩
theorem put_m {r : Nat} (hr : r < 5) {c : Nat} (hc : c < 340) {hm : rx_Hp} (h1 : hm.1 0 14 = zI r) (h2 : hm.2.1 4 r = zI c) (a b : Int32) : p_M_put a b hm ∧ (g_M_put a b hm).1 = hm.1 ∧ (g_M_put a b hm).2.1 4 r = zI ((c + 1 : Nat) : Int) ∧ (∀ i, ¬ i = 340 * r + c → (g_M_put a b hm).2.1 2 i = hm.2.1 2 i ∧ (g_M_put a b hm).2.1 3 i = hm.2.1 3 i) ∧ (g_M_put a b hm).2.1 2 (340 * r + c) = a ∧ (g_M_put a b hm).2.1 3 (340 * r + c) = b ∧ mfr r hm (g_M_put a b hm) := by
  have e1 : (340 * zI (r : Int)) + zI (c : Int) = zI ((340 * r + c : Nat) : Int) := by rw [show (340 : Int32) = zI 340 from by decide, zI_mul, zI_add]; rfl
  unfold p_M_put g_M_put
  rw [h1, zI_cN (by omega), h2, e1, zI_cN (by omega), show zI (c : Int) + 1 = zI ((c + 1 : Nat) : Int) from zI_add c 1]
  have ne2 : ∀ i, ¬ i = 340 * r + c → (rx_pa (rx_pa (rx_pa hm 2 (340 * r + c) a) 3 (340 * r + c) b) 4 r (zI ((c + 1 : Nat) : Int))).2.1 2 i = hm.2.1 2 i ∧ (rx_pa (rx_pa (rx_pa hm 2 (340 * r + c) a) 3 (340 * r + c) b) 4 r (zI ((c + 1 : Nat) : Int))).2.1 3 i = hm.2.1 3 i := by
    intro i hi
    rw [pa_ne _ _ (by simp), pa_ne _ _ (by simp), pa_ne _ _ (by simp [hi]), pa_ne _ _ (by simp), pa_ne _ _ (by simp [hi]), pa_ne _ _ (by simp)]
    exact ⟨rfl, rfl⟩
  refine ⟨⟨vp_N (by omega) (by omega), vp_N (by omega) (by omega)⟩, rfl, by rw [pa_same], ne2, ?_, ?_, ⟨((Fr.rf.pa (by decide)).pa (by decide)).pa (by decide), fun i hi => ne2 i (by omega), fun j hj => ?_⟩⟩
  · rw [pa_ne _ _ (by simp), pa_ne _ _ (by simp), pa_same]
  · rw [pa_ne _ _ (by simp), pa_same]
  · rw [pa_ne _ _ (by simp [hj]), pa_ne _ _ (by simp), pa_ne _ _ (by simp)]
theorem putT {r : Nat} (hr : r < 5) {T : List Tk} {hm : rx_Hp} (h : MTk r T hm) (hT : T.length < 340) (k v : Nat) : p_M_put (zI k) (zI v) hm ∧ MTk r (T ++ [(k, v)]) (g_M_put (zI k) (zI v) hm) ∧ (g_M_put (zI k) (zI v) hm).1 = hm.1 ∧ mfr r hm (g_M_put (zI k) (zI v) hm) := by
  obtain ⟨a1, a2, a3, a4, a5, a6, a7⟩ := put_m hr hT h.1 h.2.1 (zI k) (zI v)
  refine ⟨a1, ⟨by rw [a2]; exact h.1, by rw [a3, List.length_append, List.length_singleton], fun i t ht => ?_⟩, a2, a7⟩
  by_cases q : i < T.length
  · rw [List.getElem?_append_left q] at ht
    rw [(a4 _ (by omega)).1, (a4 _ (by omega)).2]; exact h.2.2 i t ht
  · have hi : i = T.length := by
      have := (List.getElem?_eq_some_iff.mp ht).1
      rw [List.length_append, List.length_singleton] at this; omega
    subst hi
    rw [List.getElem?_append_right (Nat.le_refl _), Nat.sub_self] at ht
    have ht : (k, v) = t := by simpa using ht
    subst ht
    rw [a5, a6]
    exact ⟨rfl, rfl⟩
theorem putB {r : Nat} (hr : r < 5) {b : Nat} {hm : rx_Hp} (h : MBd r b hm) (hb : b < 340) (x y : Int32) : p_M_put x y hm ∧ MBd r (b + 1) (g_M_put x y hm) ∧ (g_M_put x y hm).1 = hm.1 ∧ mfr r hm (g_M_put x y hm) := by
  obtain ⟨h1, c, h2, h3⟩ := h
  obtain ⟨a1, a2, a3, -, -, -, a7⟩ := put_m hr (show c < 340 by omega) h1 h3 x y
  exact ⟨a1, ⟨by rw [a2]; exact h1, c + 1, by omega, a3⟩, a2, a7⟩
theorem AtM.mf {n : Nat} {tb : Nat → Nat} {p : Nat} {a b : rx_Hp} (h : AtM n tb p a) (f : Fr [] [2, 3, 4] a b) : AtM n tb p b := h.fr f
section LRM
variable {n : Nat} {tb : Nat → Nat} {r : Nat}
def CtM (n : Nat) (tb : Nat → Nat) (r : Nat) (G : rx_Gh) (d : Nat) (q : rx_Mi) (k : Nat) (rs : Nat → Rs) : Prop := ∀ (F : rx_Hp → Prop) (p : Nat) (T : List Tk) (hm : rx_Hp), p ≤ n → T.length + (n - p) ≤ 160 → AtM n tb p hm → hm.1 0 4 = -1 → hm.1 0 5 = zI ((6 - k : Nat) : Int) → MTk r T hm → (∀ e h', rs p = .inl e → h'.1 0 4 = zI e → MBd r (T.length + (e - p)) h' → mfr r hm h' → F h') → (∀ p' t h', rs p = .inr (p', t) → AtM n tb p' h' → h'.1 0 4 = -1 → h'.1 0 5 = zI ((6 - k : Nat) : Int) → MTk r (T ++ t) h' → mfr r hm h' → F h') → Ev wM G d q [.ref 0] hm (rV F)
theorem nz_e {e : Nat} (h : e ≤ 1000) : ¬ zI (e : Int) = -1 := by rw [show (-1 : Int32) = zI (-1) from by decide, zI_eq (by omega) (by omega)]; omega
theorem pn_m {G : rx_Gh} {F : Int32 → rx_Hp → Prop} (ok : TOk n tb) : ∀ (f q v d : Nat) (hm : rx_Hp), d + f = 4 → q ≤ n → v < 10 ^ d → AtM n tb q hm → hm.1 0 4 = -1 → (∀ e x h', nmF n tb f q v = .inl e → h'.1 0 4 = zI e → Fr nuF [] hm h' → F x h') → (∀ p' u h', nmF n tb f q v = .inr (p', u) → AtM n tb p' h' → h'.1 0 4 = -1 → Fr nuF [] hm h' → F (zI u) h') → Rn wM G 2 q_M_plainNumber 4 [some (.ref 0), some (.int (zI v)), some (.int (zI d))] [] hm (rI F) := by
  intro f
  induction f with
  | zero =>
    intro q v d hm hd hq hv T hw Kl Kr
    obtain ⟨p1, p2⟩ := here_m ok hq T
    have hcn : 4 ≤ zI (d : Int) := by rw [show (4 : Int32) = zI 4 from by decide, zI_le (by omega) (by omega)]; omega
    refine w_M_plainNumber_4 _ _ ⟨fun _ => ⟨p1, ?_⟩, fun c => absurd hcn c⟩
    rw [p2, dg_m ok]
    unfold nmF at Kl Kr
    refine ⟨fun c => ?_, fun c => ?_⟩
    · rw [if_neg (by rw [(b2_0 _).mp c]; decide)] at Kr
      exact Kr q v hm rfl T hw Fr.rf
    · rw [if_pos (b2_t c)] at Kl
      obtain ⟨b1, b2'⟩ := bad_m T hw
      exact Kl q _ _ rfl b1 (b2'.mono (by decide) (by decide))
  | succ f ih =>
    intro q v d hm hd hq hv T hw Kl Kr
    obtain ⟨p1, p2⟩ := here_m ok hq T
    have hcn : ¬ 4 ≤ zI (d : Int) := by rw [show (4 : Int32) = zI 4 from by decide, zI_le (by omega) (by omega)]; omega
    refine w_M_plainNumber_4 _ _ ⟨fun c => absurd c hcn, fun _ => ⟨p1, ?_⟩⟩
    rw [p2, dg_m ok]
    refine ⟨fun c => ?_, fun c => ?_⟩
    · have c := (b2_0 _).mp c
      have en : nmF n tb (f + 1) q v = .inr (q, v) := by unfold nmF; rw [if_neg (by rw [c]; decide)]
      exact Kr q v hm en T hw Fr.rf
    · have c := b2_t c
      obtain ⟨e1, e2, e3, e4, e5⟩ := dg_ch c
      have en : nmF n tb (f + 1) q v = nmF n tb f (q + 1) (10 * v + (tb q - 48)) := by
        conv => lhs; unfold nmF
        rw [if_pos c]
      rw [en] at Kl Kr
      have hv4 : 10 ^ d ≤ 10 ^ 4 := Nat.pow_le_pow_right (by omega) (by omega)
      have hv5 : (10 : Nat) ^ 4 = 10000 := rfl
      rw [e5, show 10 * zI (v : Int) + zI (tb q : Nat) - 48 = zI ((10 * v + (tb q - 48) : Nat) : Int) from by
        rw [show (10 : Int32) = zI 10 from by decide, show (48 : Int32) = zI 48 from by decide, zI_mul, zI_add, zI_sub]; congr 1; omega, show zI (d : Int) + 1 = zI ((d + 1 : Nat) : Int) from zI_add d 1]
      have fr : Fr nuF [] hm (rx_pf hm 0 3 (hm.1 0 3 + 1)) := Fr.rf.pf (by decide)
      refine ih (q + 1) _ (d + 1) _ (by omega) (by omega) ?_ (T.to (by rw [T.2]; exact zI_add q 1)) (by rw [pf_ne _ _ (by decide)]; exact hw) (fun e x h' he w' f' => Kl e x h' he w' (fr.tr f')) (fun p' u h' he T' w' f' => Kr p' u h' he T' w' (fr.tr f'))
      rw [Nat.pow_succ]; omega
theorem let_m : ∀ b : Fin 256, f_M_letterOf (zM (b : Nat)) = (match ixN ixL (b : Nat) with | some l => zI (l : Nat) | none => -1) := by decide +kernel
theorem ops_m {k : Nat} (hk : k ≤ 6) {p : Nat} {T : List Tk} {hm : rx_Hp} (T0 : AtM n tb p hm) (hw : hm.1 0 4 = -1) (hd : hm.1 0 5 = zI ((6 - k : Nat) : Int)) (S : MTk r T hm) : (1 ≤ k → AtM n tb (p + 1) (g_M_opens hm) ∧ (g_M_opens hm).1 0 4 = -1 ∧ (g_M_opens hm).1 0 5 = zI ((6 - (k - 1) : Nat) : Int) ∧ MTk r T (g_M_opens hm)) ∧ (k = 0 → (g_M_opens hm).1 0 4 = zI p ∧ MTk r T (g_M_opens hm)) ∧ mfr r hm (g_M_opens hm) := by
  have c : hm.1 0 5 = 6 ↔ k = 0 := by rw [hd, show (6 : Int32) = zI 6 from by decide, zI_eq (by omega) (by omega)]; omega
  unfold g_M_opens
  by_cases h0 : k = 0
  · rw [if_pos (c.mpr h0)]
    obtain ⟨b1, b2'⟩ := bad_m T0 hw
    have f : Fr mlF [] hm (rx_pf (rx_pf (g_M_bad hm) 0 5 ((g_M_bad hm).1 0 5 + 1)) 0 3 ((g_M_bad hm).1 0 3 + 1)) := ((b2'.mono (by decide) (by decide) : Fr mlF [] hm _).pf (by decide)).pf (by decide)
    refine ⟨fun z => by omega, fun _ => ⟨?_, S.of f⟩, mfr.of f (fun x h => h)⟩
    rw [pf_ne _ _ (by decide), pf_ne _ _ (by decide)]; exact b1
  · rw [if_neg (mt c.mp h0)]
    have f : Fr mlF [] hm (rx_pf (rx_pf hm 0 5 (hm.1 0 5 + 1)) 0 3 (hm.1 0 3 + 1)) := (Fr.rf.pf (by decide)).pf (by decide)
    refine ⟨fun _ => ⟨⟨T0.1.fr f, ?_⟩, ?_, ?_, S.of f⟩, fun z => absurd z h0, mfr.of f (fun x h => h)⟩
    · rw [pf_same, T0.2]; exact zI_add _ 1
    · rw [pf_ne _ _ (by decide), pf_ne _ _ (by decide)]; exact hw
    · rw [pf_ne _ _ (by decide), pf_same, hd, show (1 : Int32) = zI 1 from by decide, zI_add]
      congr 1; omega
/-- behind what stood within: the bracket that closes -/
theorem clo_m {G : rx_Gh} {F : rx_Hp → Prop} (ok : TOk n tb) {k c : Nat} (hk : k < 6) (hc : 1 ≤ c ∧ c ≤ 255) {p : Nat} {T : List Tk} {hm : rx_Hp} (hp : p ≤ n) (T0 : AtM n tb p hm) (hw : hm.1 0 4 = -1) (hd : hm.1 0 5 = zI ((6 - k : Nat) : Int)) (S : MTk r T hm) (Kl : ¬ chA n tb (sk n tb p) = c → ∀ h', h'.1 0 4 = zI (sk n tb p) → MBd r T.length h' → mfr r hm h' → F h') (Kr : chA n tb (sk n tb p) = c → ∀ h', AtM n tb (sk n tb p + 1) h' → h'.1 0 4 = -1 → h'.1 0 5 = zI ((6 - (k + 1) : Nat) : Int) → MTk r T h' → mfr r hm h' → F h') : Ev wM G 3 q_M_closes [.ref 0, .int (zI c)] hm (rV F) := by
  have cl := chA_le ok (sk n tb p)
  refine w_M_closes _ ⟨fun _ => look_m ok hp T0 (fun h1 T1 f1 => ?_), fun z => absurd hw z⟩
  have w1 : h1.1 0 4 = -1 := (f1.1 _ _ (by decide)).trans hw
  have d1 : h1.1 0 5 = zI ((6 - k : Nat) : Int) := (f1.1 _ _ (by decide)).trans hd
  have S1 := S.of f1
  have fr1 : mfr r hm h1 := mfr.of f1 (by decide)
  rw [zM_eq cl hc.1 hc.2]
  refine ⟨fun z => ?_, fun z => ?_⟩
  · have f : Fr mlF [] h1 (rx_pf (rx_pf h1 0 3 (h1.1 0 3 + 1)) 0 5 (h1.1 0 5 - 1)) := (Fr.rf.pf (by decide)).pf (by decide)
    refine Kr z _ ⟨T1.1.fr f, ?_⟩ ?_ ?_ (S1.of f) (fr1.tr (mfr.of f (fun x h => h)))
    · rw [pf_ne _ _ (by decide), pf_same, T1.2]; exact zI_add _ 1
    · rw [pf_ne _ _ (by decide), pf_ne _ _ (by decide)]; exact w1
    · rw [pf_same, d1, show (1 : Int32) = zI 1 from by decide, zI_sub]; congr 1; omega
  · obtain ⟨b1, b2'⟩ := bad_m T1 w1
    have f : Fr mlF [] h1 (rx_pf (rx_pf (g_M_bad h1) 0 3 ((g_M_bad h1).1 0 3 + 1)) 0 5 ((g_M_bad h1).1 0 5 - 1)) := ((b2'.mono (by decide) (by decide) : Fr mlF [] h1 _).pf (by decide)).pf (by decide)
    refine Kl z _ ?_ ((S1.bd (Nat.le_refl _)).of f) (fr1.tr (mfr.of f (fun x h => h)))
    rw [pf_ne _ _ (by decide), pf_ne _ _ (by decide)]; exact b1
theorem clo_f {G : rx_Gh} {F : rx_Hp → Prop} {c : Int32} {e b : Nat} (he : e ≤ 1000) {hm : rx_Hp} (hw : hm.1 0 4 = zI e) (S : MBd r b hm) (K : ∀ h', h'.1 0 4 = zI e → MBd r b h' → mfr r hm h' → F h') : Ev wM G 3 q_M_closes [.ref 0, .int c] hm (rV F) := by
  refine w_M_closes _ ⟨fun z => absurd (hw ▸ z) (nz_e he), fun _ => ?_⟩
  have f : Fr mlF [] hm (rx_pf (rx_pf hm 0 3 (hm.1 0 3 + 1)) 0 5 (hm.1 0 5 - 1)) := (Fr.rf.pf (by decide)).pf (by decide)
  refine K _ ?_ (S.of f) (mfr.of f (fun x h => h))
  rw [pf_ne _ _ (by decide), pf_ne _ _ (by decide)]; exact hw
theorem am_m {G : rx_Gh} (ok : TOk n tb) (hr : r < 5) {k : Nat} (hk : k ≤ 6) (hS : ∀ k', k = k' + 1 → CtM n tb r G (4 * k' + 12) q_M_sum k' (sS n tb k')) : CtM n tb r G (4 * k + 10) q_M_atom k (aA n tb k) := by
  intro F p T hm hp hT T0 hw hd S0 Kl Kr
  have o1 := ok.1
  have s1 := sk_ge (tb := tb) hp
  have s2 := sk_le (tb := tb) hp
  have cl := chA_le ok (sk n tb p)
  refine w_M_atom (look_m ok hp T0 (fun h1 T1 f1 => ?_))
  have w1 : h1.1 0 4 = -1 := (f1.1 _ _ (by decide)).trans hw
  have d1 : h1.1 0 5 = zI ((6 - k : Nat) : Int) := (f1.1 _ _ (by decide)).trans hd
  have S1 := S0.of f1
  have fr1 : mfr r hm h1 := mfr.of f1 (by decide)
  rw [dg_m ok]
  have lm := let_m ⟨chA n tb (sk n tb p), by omega⟩
  simp only at lm
  rw [lm]
  have eA : ¬ chA n tb (sk n tb p) = 91 → aA n tb k p = (match ixN ixL (chA n tb (sk n tb p)) with | some l => .inr (sk n tb p + 1, [(1, l)]) | none => (match numA n tb 4 (sk n tb p) with | .inl e => .inl e | .inr (p', v) => .inr (p', [(0, v)]))) := by
    intro c
    cases k with
    | zero =>
      show pAt n tb false (fun _ => .inl 0) p = _
      unfold pAt; rw [if_neg c]
      cases ixN ixL (chA n tb (sk n tb p)) with
      | some l => rfl
      | none => simp only; cases numA n tb 4 (sk n tb p) <;> rfl
    | succ k =>
      show pAt n tb true (sS n tb k) p = _
      unfold pAt; rw [if_neg c]
      cases ixN ixL (chA n tb (sk n tb p)) with
      | some l => rfl
      | none => simp only; cases numA n tb 4 (sk n tb p) <;> rfl
  refine ⟨fun c => ⟨fun c2 => ⟨fun c3 => ⟨fun w2 => ?_, fun w2 => ?_⟩, fun c3 => ?_⟩, fun c2 => ?_⟩, fun c => ?_⟩
  · -- a bracket
    have c3 : chA n tb (sk n tb p) = 91 := (zM_eq cl (k := 91) (by omega) (by omega)).mp c3
    have hlt := chA_lt c3 (by omega)
    obtain ⟨o1', o2', o3'⟩ := ops_m hk T1 w1 d1 S1
    have hk1 : 1 ≤ k := by
      by_cases z : k = 0
      · have := (o2' z).1
        rw [this] at w2
        exact absurd w2 (nz_e (by omega))
      · omega
    obtain ⟨t1, t2, t3, t4⟩ := o1' hk1
    obtain ⟨k', rfl⟩ : ∃ k', k = k' + 1 := ⟨k - 1, by omega⟩
    rw [Nat.add_sub_cancel] at t3
    have eA' : aA n tb (k' + 1) p = bnd (sS n tb k' (sk n tb p + 1)) (fun p' t => if chA n tb (sk n tb p') = 93 then .inr (sk n tb p' + 1, t) else .inl (sk n tb p')) := by
      show pAt n tb true (sS n tb k') p = _
      unfold pAt; rw [if_pos c3, if_pos rfl]
    rw [eA'] at Kl Kr
    rw [show 4 * (k' + 1) + 8 = 4 * k' + 12 by omega]
    obtain ⟨g1, g2⟩ := gd_S ok k' (sk n tb p + 1) (by omega)
    refine hS k' rfl _ (sk n tb p + 1) T _ (by omega) (by omega) t1 t2 t3 t4 (fun e h3 he w3 B3 f3 => ?_) (fun p' t h3 he T3 w3 d3 S3 f3 => ?_)
    · have ge := g1 e he
      rw [he, bnd_l] at Kl
      exact clo_f (e := e) (by omega) w3 B3 (fun h' w' B' f' => Kl e h' rfl w' (B'.up (by omega)) (fr1.tr (o3'.tr (f3.tr f'))))
    · obtain ⟨a1, a2, a3, a4⟩ := g2 p' t he
      rw [he, bnd_r] at Kl Kr
      have s3 := sk_ge (n := n) (tb := tb) a2
      rw [show (93 : Int32) = zI ((93 : Nat) : Int) from by decide]
      refine clo_m ok (by omega) (by omega) a2 T3 w3 d3 S3 (fun z h' w' B' f' => ?_) (fun z h' T' w' d' S' f' => ?_)
      · rw [if_neg z] at Kl
        exact Kl _ h' rfl w' (B'.up (by rw [List.length_append]; omega)) (fr1.tr (o3'.tr (f3.tr f')))
      · rw [if_pos z] at Kr
        exact Kr _ _ h' rfl T' w' d' S' (fr1.tr (o3'.tr (f3.tr f')))
  · have c3 : chA n tb (sk n tb p) = 91 := (zM_eq cl (k := 91) (by omega) (by omega)).mp c3
    obtain ⟨o1', o2', o3'⟩ := ops_m hk T1 w1 d1 S1
    have hk0 : k = 0 := by
      by_cases z : k = 0
      · exact z
      · exact absurd (o1' (by omega)).2.1 w2
    subst hk0
    obtain ⟨y1, y2⟩ := o2' rfl
    refine Kl (sk n tb p) _ ?_ y1 (y2.bd (by omega)) (fr1.tr o3')
    show pAt n tb false (fun _ => .inl 0) p = _
    unfold pAt; rw [if_pos c3]; rfl
  · -- nothing
    have c3 : ¬ chA n tb (sk n tb p) = 91 := fun z => c3 ((zM_eq cl (k := 91) (by omega) (by omega)).mpr z)
    have cd := (b2_0 _).mp c
    have e0 : ixN ixL (chA n tb (sk n tb p)) = none := by
      cases e : ixN ixL (chA n tb (sk n tb p)) with
      | none => rfl
      | some l =>
        rw [e] at c2
        have := (ixL_6 cl e).1
        exact absurd c2 (nz_e (by omega))
    rw [eA c3, e0] at Kl
    simp only at Kl
    unfold numA at Kl
    rw [if_neg (by rw [cd]; decide)] at Kl
    obtain ⟨b1, b2'⟩ := bad_m T1 w1
    exact Kl _ _ rfl b1 ((S1.bd (by omega)).of b2') (fr1.tr (mfr.of b2' (by decide)))
  · -- a letter
    cases e : ixN ixL (chA n tb (sk n tb p)) with
    | none => rw [e] at c2; exact absurd rfl c2
    | some l =>
      have l6 := (ixL_6 cl e).1
      have c3 : ¬ chA n tb (sk n tb p) = 91 := by
        intro z
        rw [z, show ixN ixL 91 = none from by decide] at e; cases e
      have hlt : sk n tb p < n := by
        by_cases z : sk n tb p < n
        · exact z
        · have : chA n tb (sk n tb p) = 0 := by unfold chA; rw [if_neg z]
          rw [this, show ixN ixL 0 = none from by decide] at e; cases e
      rw [eA c3, e] at Kr
      simp only at Kr
      have f2 : Fr [(0, 3)] [] h1 (rx_pf h1 0 3 (h1.1 0 3 + 1)) := Fr.rf.pf (by decide)
      have T2 : AtM n tb (sk n tb p + 1) (rx_pf h1 0 3 (h1.1 0 3 + 1)) := T1.to (by rw [T1.2]; exact zI_add _ 1)
      obtain ⟨q1, q2, q3, q4⟩ := putT hr (S1.of f2) (by omega) 1 l
      refine ⟨q1, Kr _ _ _ rfl ?_ ?_ ?_ q2 (fr1.tr ((mfr.of f2 (by decide)).tr q4))⟩
      · exact ⟨⟨by show (g_M_put (zI (1 : Nat)) (zI l) (rx_pf h1 0 3 (h1.1 0 3 + 1))).1 0 2 = _; rw [q3]; exact T2.1.1, fun i hi => by show (g_M_put (zI (1 : Nat)) (zI l) (rx_pf h1 0 3 (h1.1 0 3 + 1))).2.1 1 i = _; rw [q4.1.2.1 1 (by decide)]; exact T2.1.2 i hi⟩, by show (g_M_put (zI (1 : Nat)) (zI l) (rx_pf h1 0 3 (h1.1 0 3 + 1))).1 0 3 = _; rw [q3]; exact T2.2⟩
      · show (g_M_put (zI (1 : Nat)) (zI l) (rx_pf h1 0 3 (h1.1 0 3 + 1))).1 0 4 = _
        rw [q3, pf_ne _ _ (by decide)]; exact w1
      · show (g_M_put (zI (1 : Nat)) (zI l) (rx_pf h1 0 3 (h1.1 0 3 + 1))).1 0 5 = _
        rw [q3, pf_ne _ _ (by decide)]; exact d1
  · -- a number
    have cd := b2_t c
    obtain ⟨y1, y2, y3, y4, -⟩ := dg_ch cd
    have c3 : ¬ chA n tb (sk n tb p) = 91 := by omega
    have e0 : ixN ixL (chA n tb (sk n tb p)) = none := by
      cases e : ixN ixL (chA n tb (sk n tb p)) with
      | none => rfl
      | some l => have := (ixL_6 cl e).2; omega
    rw [eA c3, e0] at Kl Kr
    simp only at Kl Kr
    obtain ⟨nb1, nb2⟩ := numA_bd (n := n) (tb := tb) s2
    have en : numA n tb 4 (sk n tb p) = nmF n tb 4 (sk n tb p) 0 := by unfold numA; rw [if_pos cd]
    rw [en] at Kl Kr nb1 nb2
    refine w_M_plainNumber (pn_m ok 4 (sk n tb p) 0 0 h1 (by omega) s2 (by omega) T1 w1 (fun e x h5 he w5 f5 => ?_) (fun p' v h5 he T5 w5 f5 => ?_))
    · have ne := nb1 e he
      have e4 : sk n tb p + 1 ≤ e := by
        have en2 : nmF n tb 4 (sk n tb p) 0 = nmF n tb 3 (sk n tb p + 1) (10 * 0 + (tb (sk n tb p) - 48)) := by
          conv => lhs; unfold nmF
          rw [if_pos cd]
        rw [en2] at he
        exact ((nmF_bd (n := n) (tb := tb) 3 (sk n tb p + 1) (10 * 0 + (tb (sk n tb p) - 48)) (by omega)).1 e he).1
      rw [he] at Kl
      have f5' : Fr mlF [] h1 h5 := f5.mono (by decide) (by decide)
      obtain ⟨q1, q2, q3, q4⟩ := putB hr ((S1.bd (Nat.le_refl _)).of f5') (by omega) 0 x
      refine ⟨q1, Kl e _ rfl (by rw [q3]; exact w5) (q2.up (by omega)) (fr1.tr ((mfr.of f5' (fun x h => h)).tr q4))⟩
    · obtain ⟨b1, b2', b3⟩ := nb2 p' v he
      rw [he] at Kr
      have f5' : Fr mlF [] h1 h5 := f5.mono (by decide) (by decide)
      obtain ⟨q1, q2, q3, q4⟩ := putT hr (S1.of f5') (by omega) 0 v
      refine ⟨q1, Kr _ _ _ rfl ?_ ?_ ?_ q2 (fr1.tr ((mfr.of f5' (fun x h => h)).tr q4))⟩
      · exact ⟨⟨by show (g_M_put (zI (0 : Nat)) (zI v) h5).1 0 2 = _; rw [q3]; exact T5.1.1, fun i hi => by show (g_M_put (zI (0 : Nat)) (zI v) h5).2.1 1 i = _; rw [q4.1.2.1 1 (by decide)]; exact T5.1.2 i hi⟩, by show (g_M_put (zI (0 : Nat)) (zI v) h5).1 0 3 = _; rw [q3]; exact T5.2⟩
      · show (g_M_put (zI (0 : Nat)) (zI v) h5).1 0 4 = _
        rw [q3]; exact w5
      · show (g_M_put (zI (0 : Nat)) (zI v) h5).1 0 5 = _
        rw [q3, f5.1 _ _ (by decide)]; exact d1
/-! the loop of term -/
theorem te_m_lp {G : rx_Gh} {F : rx_Hp → Prop} (ok : TOk n tb) (hr : r < 5) {k : Nat} (hk : k ≤ 6) {A : Nat → Rs} (gA : ∀ q, q ≤ n → gd n vS q (A q)) (hA : CtM n tb r G (4 * k + 10) q_M_atom k A) : ∀ (m p f : Nat) (T : List Tk) (hm : rx_Hp), p + m = n → n - p ≤ f → T.length + (n - p) ≤ 160 → AtM n tb (sk n tb p) hm → hm.1 0 4 = -1 → hm.1 0 5 = zI ((6 - k : Nat) : Int) → MTk r T hm → (∀ e h', lpO n tb csT A f p [] = .inl e → h'.1 0 4 = zI e → MBd r (T.length + (e - p)) h' → mfr r hm h' → F h') → (∀ p' t h', lpO n tb csT A f p [] = .inr (p', t) → AtM n tb p' h' → h'.1 0 4 = -1 → h'.1 0 5 = zI ((6 - k : Nat) : Int) → MTk r (T ++ t) h' → mfr r hm h' → F h') → Rn wM G (4 * k + 11) q_M_term 21 [some (.ref 0), some (.int (zM (chA n tb (sk n tb p))))] [] hm (rV F) := by
  have o1 := ok.1
  intro m
  induction m using Nat.strongRecOn with
  | ind m ih =>
    intro p f T hm hpm hf hT T0 hw hd S0 Kl Kr
    have hp : p ≤ n := by omega
    have s1 := sk_ge (tb := tb) hp
    have s2 := sk_le (tb := tb) hp
    have cl := chA_le ok (sk n tb p)
    have q1 : zM (chA n tb (sk n tb p)) = 42 ↔ chA n tb (sk n tb p) = 42 := zM_eq cl (k := 42) (by omega) (by omega)
    have q2 : zM (chA n tb (sk n tb p)) = 47 ↔ chA n tb (sk n tb p) = 47 := zM_eq cl (k := 47) (by omega) (by omega)
    have go : ∀ j : Nat, csT (chA n tb (sk n tb p)) = some j → 0 < chA n tb (sk n tb p) → Ev wM G (4 * k + 10) q_M_atom [.ref 0] (rx_pf hm 0 3 ((hm.1 0 3) + 1)) (rV fun h1 => p_M_put (zI j) (zI (0 : Nat)) h1 ∧ ((((g_M_put (zI j) (zI (0 : Nat)) h1).1 0 4) = (-1) → Ev wM G 2 q_M_look [.ref 0] (g_M_put (zI j) (zI (0 : Nat)) h1) (rI fun r3 h2 => Rn wM G (4 * k + 11) q_M_term 21 [some (.ref 0), some (.int r3)] [] h2 (rV F))) ∧ (¬ ((g_M_put (zI j) (zI (0 : Nat)) h1).1 0 4) = (-1) → Rn wM G (4 * k + 11) q_M_term 21 [some (.ref 0), some (.int (-1))] [] (g_M_put (zI j) (zI (0 : Nat)) h1) (rV F)))) := by
      intro j hj hc0
      have hlt : sk n tb p < n := chA_lt rfl hc0
      obtain ⟨f', rfl⟩ : ∃ f', f = f' + 1 := ⟨f - 1, by omega⟩
      have eL : lpO n tb csT A (f' + 1) p [] = bnd (A (sk n tb p + 1)) (fun p' t => bnd (lpO n tb csT A f' p' []) (fun p'' x => .inr (p'', t ++ ([(j, 0)] ++ x)))) := by
        rw [lpO_go hj]
        congr 1
        funext p' t
        rw [List.nil_append]
        have := lpO_pre (n := n) (tb := tb) (cs := csT) (A := A) (t ++ [(j, 0)]) f' p' []
        rw [List.append_nil] at this
        rw [this]
        congr 1
        funext p'' x
        rw [List.append_assoc]
      rw [eL] at Kl Kr
      have f2 : Fr [(0, 3)] [] hm (rx_pf hm 0 3 (hm.1 0 3 + 1)) := Fr.rf.pf (by decide)
      have T2 : AtM n tb (sk n tb p + 1) (rx_pf hm 0 3 (hm.1 0 3 + 1)) := T0.to (by rw [T0.2]; exact zI_add _ 1)
      obtain ⟨g1, g2⟩ := gA (sk n tb p + 1) (by omega)
      refine hA _ (sk n tb p + 1) T _ (by omega) (by omega) T2 (by rw [pf_ne _ _ (by decide)]; exact hw) (by rw [pf_ne _ _ (by decide)]; exact hd) (S0.of f2) (fun e h1 he w1 B1 f1 => ?_) (fun p' t h1 he T1 w1 d1 S1 f1 => ?_)
      · have ge := g1 e he
        rw [he, bnd_l] at Kl
        obtain ⟨b1, b2', b3, b4⟩ := putB hr B1 (by omega) (zI j) (zI (0 : Nat))
        have w2 : (g_M_put (zI j) (zI (0 : Nat)) h1).1 0 4 = zI e := by rw [b3]; exact w1
        refine ⟨b1, fun z => absurd (w2 ▸ z) (nz_e (by omega)), fun _ => ?_⟩
        refine w_M_term_21 _ ⟨fun z => absurd z (by decide), fun _ => ⟨fun z => absurd z (by decide), fun _ => ?_⟩⟩
        exact Kl e _ rfl w2 (b2'.up (by omega)) ((mfr.of f2 (by decide)).tr (f1.tr b4))
      · obtain ⟨a1, a2, a3, a4⟩ := g2 p' t he
        rw [he, bnd_r] at Kl Kr
        obtain ⟨b1, b2', b3, b4⟩ := putT hr S1 (by rw [List.length_append]; omega) j 0
        have w2 : (g_M_put (zI j) (zI (0 : Nat)) h1).1 0 4 = -1 := by rw [b3]; exact w1
        have T3 : AtM n tb p' (g_M_put (zI j) (zI (0 : Nat)) h1) := ⟨⟨by rw [b3]; exact T1.1.1, fun i hi => by rw [b4.1.2.1 1 (by decide)]; exact T1.1.2 i hi⟩, by rw [b3]; exact T1.2⟩
        have fr3 : mfr r hm (g_M_put (zI j) (zI (0 : Nat)) h1) := (mfr.of f2 (by decide)).tr (f1.tr b4)
        refine ⟨b1, fun _ => look_m ok a2 T3 (fun h2 T2' f2' => ?_), fun z => absurd w2 z⟩
        have fr4 : mfr r hm h2 := fr3.tr (mfr.of f2' (by decide))
        have lT : (T ++ t ++ [(j, 0)]).length = T.length + t.length + 1 := by simp; omega
        refine ih (n - p') (by omega) p' f' (T ++ t ++ [(j, 0)]) h2 (by omega) (by omega) (by omega) T2' ((f2'.1 _ _ (by decide)).trans w2) ((f2'.1 _ _ (by decide)).trans (by rw [b3]; exact d1)) (b2'.of f2') (fun e h' he' w' B' f' => ?_) (fun p'' x h' he' T' w' d' S' f' => ?_)
        · obtain ⟨z1, -⟩ := gl_lp (n := n) (tb := tb) (P := fun _ => True) (Q := vS) (cs := csT) (A := A) (by decide) gA (fun _ _ _ _ _ _ _ => trivial) _ p' [] a2 trivial
          have := z1 e he'
          refine Kl e h' (by rw [he']; rfl) w' (B'.up (by omega)) (fr4.tr f')
        · refine Kr p'' _ h' (by rw [he']; rfl) T' w' d' ?_ (fr4.tr f')
          rw [show T ++ (t ++ ([(j, 0)] ++ x)) = T ++ t ++ [(j, 0)] ++ x by simp]; exact S'
    refine w_M_term_21 _ ⟨fun z => ?_, fun z => ⟨fun z2 => ?_, fun z2 => ?_⟩⟩
    · have z := q1.mp z
      exact go 4 (by rw [z]; rfl) (by omega)
    · have z2 := q2.mp z2
      exact go 5 (by rw [z2]; rfl) (by omega)
    · have hn : csT (chA n tb (sk n tb p)) = none := by unfold csT; rw [if_neg (fun y => z (q1.mpr y)), if_neg (fun y => z2 (q2.mpr y))]
      rw [lpO_stop hn] at Kr
      refine Kr _ _ hm rfl T0 hw hd ?_ mfr.rf
      rw [List.append_nil]; exact S0
theorem te_m {G : rx_Gh} (ok : TOk n tb) (hr : r < 5) {k : Nat} (hk : k ≤ 6) {A : Nat → Rs} (gA : ∀ q, q ≤ n → gd n vS q (A q)) (hA : CtM n tb r G (4 * k + 10) q_M_atom k A) : CtM n tb r G (4 * k + 11) q_M_term k (fun p => bnd (A p) (fun p' t => lpO n tb csT A n p' t)) := by
  intro F p T hm hp hT T0 hw hd S0 Kl Kr
  have o1 := ok.1
  simp only at Kl Kr
  obtain ⟨g1, g2⟩ := gA p hp
  refine w_M_term (hA _ p T hm hp hT T0 hw hd S0 (fun e h1 he w1 B1 f1 => ?_) (fun p' t h1 he T1 w1 d1 S1 f1 => ?_))
  · have ge := g1 e he
    rw [he, bnd_l] at Kl
    refine ⟨fun z => absurd (w1 ▸ z) (nz_e (by omega)), fun _ => ?_⟩
    refine w_M_term_21 _ ⟨fun z => absurd z (by decide), fun _ => ⟨fun z => absurd z (by decide), fun _ => ?_⟩⟩
    exact Kl e h1 rfl w1 B1 f1
  · obtain ⟨a1, a2, a3, a4⟩ := g2 p' t he
    have el : lpO n tb csT A n p' t = bnd (lpO n tb csT A n p' []) (fun p'' x => .inr (p'', t ++ x)) := by
      have := lpO_pre (n := n) (tb := tb) (cs := csT) (A := A) t n p' []
      rwa [List.append_nil] at this
    rw [he, bnd_r, el] at Kl Kr
    refine ⟨fun _ => look_m ok a2 T1 (fun h2 T2 f2 => ?_), fun z => absurd w1 z⟩
    have fr2 : mfr r hm h2 := f1.tr (mfr.of f2 (by decide))
    refine te_m_lp ok hr hk gA hA (n - p') p' n (T ++ t) h2 (by omega) (by omega) (by rw [List.length_append]; omega) T2 ((f2.1 _ _ (by decide)).trans w1) ((f2.1 _ _ (by decide)).trans d1) (S1.of f2) (fun e h' he' w' B' f' => ?_) (fun p'' x h' he' T' w' d' S' f' => ?_)
    · obtain ⟨z1, -⟩ := gl_lp (n := n) (tb := tb) (P := fun _ => True) (Q := vS) (cs := csT) (A := A) (by decide) gA (fun _ _ _ _ _ _ _ => trivial) n p' [] a2 trivial
      have := z1 e he'
      exact Kl e h' (by rw [he']; rfl) w' (B'.up (by rw [List.length_append]; omega)) (fr2.tr f')
    · refine Kr p'' _ h' (by rw [he']; rfl) T' w' d' ?_ (fr2.tr f')
      rw [← List.append_assoc]; exact S'
/-! the loop of sum -/
theorem su_m_lp {G : rx_Gh} {F : rx_Hp → Prop} (ok : TOk n tb) (hr : r < 5) {k : Nat} (hk : k ≤ 6) {A : Nat → Rs} (gA : ∀ q, q ≤ n → gd n vS q (A q)) (hA : CtM n tb r G (4 * k + 11) q_M_term k A) : ∀ (m p f : Nat) (T : List Tk) (hm : rx_Hp), p + m = n → n - p ≤ f → T.length + (n - p) ≤ 160 → AtM n tb (sk n tb p) hm → hm.1 0 4 = -1 → hm.1 0 5 = zI ((6 - k : Nat) : Int) → MTk r T hm → (∀ e h', lpO n tb csS A f p [] = .inl e → h'.1 0 4 = zI e → MBd r (T.length + (e - p)) h' → mfr r hm h' → F h') → (∀ p' t h', lpO n tb csS A f p [] = .inr (p', t) → AtM n tb p' h' → h'.1 0 4 = -1 → h'.1 0 5 = zI ((6 - k : Nat) : Int) → MTk r (T ++ t) h' → mfr r hm h' → F h') → Rn wM G (4 * k + 12) q_M_sum 21 [some (.ref 0), some (.int (zM (chA n tb (sk n tb p))))] [] hm (rV F) := by
  have o1 := ok.1
  intro m
  induction m using Nat.strongRecOn with
  | ind m ih =>
    intro p f T hm hpm hf hT T0 hw hd S0 Kl Kr
    have hp : p ≤ n := by omega
    have s1 := sk_ge (tb := tb) hp
    have s2 := sk_le (tb := tb) hp
    have cl := chA_le ok (sk n tb p)
    have q1 : zM (chA n tb (sk n tb p)) = 43 ↔ chA n tb (sk n tb p) = 43 := zM_eq cl (k := 43) (by omega) (by omega)
    have q2 : zM (chA n tb (sk n tb p)) = 45 ↔ chA n tb (sk n tb p) = 45 := zM_eq cl (k := 45) (by omega) (by omega)
    have go : ∀ j : Nat, csS (chA n tb (sk n tb p)) = some j → 0 < chA n tb (sk n tb p) → Ev wM G (4 * k + 11) q_M_term [.ref 0] (rx_pf hm 0 3 ((hm.1 0 3) + 1)) (rV fun h1 => p_M_put (zI j) (zI (0 : Nat)) h1 ∧ ((((g_M_put (zI j) (zI (0 : Nat)) h1).1 0 4) = (-1) → Ev wM G 2 q_M_look [.ref 0] (g_M_put (zI j) (zI (0 : Nat)) h1) (rI fun r3 h2 => Rn wM G (4 * k + 12) q_M_sum 21 [some (.ref 0), some (.int r3)] [] h2 (rV F))) ∧ (¬ ((g_M_put (zI j) (zI (0 : Nat)) h1).1 0 4) = (-1) → Rn wM G (4 * k + 12) q_M_sum 21 [some (.ref 0), some (.int (-1))] [] (g_M_put (zI j) (zI (0 : Nat)) h1) (rV F)))) := by
      intro j hj hc0
      have hlt : sk n tb p < n := chA_lt rfl hc0
      obtain ⟨f', rfl⟩ : ∃ f', f = f' + 1 := ⟨f - 1, by omega⟩
      have eL : lpO n tb csS A (f' + 1) p [] = bnd (A (sk n tb p + 1)) (fun p' t => bnd (lpO n tb csS A f' p' []) (fun p'' x => .inr (p'', t ++ ([(j, 0)] ++ x)))) := by
        rw [lpO_go hj]
        congr 1
        funext p' t
        rw [List.nil_append]
        have := lpO_pre (n := n) (tb := tb) (cs := csS) (A := A) (t ++ [(j, 0)]) f' p' []
        rw [List.append_nil] at this
        rw [this]
        congr 1
        funext p'' x
        rw [List.append_assoc]
      rw [eL] at Kl Kr
      have f2 : Fr [(0, 3)] [] hm (rx_pf hm 0 3 (hm.1 0 3 + 1)) := Fr.rf.pf (by decide)
      have T2 : AtM n tb (sk n tb p + 1) (rx_pf hm 0 3 (hm.1 0 3 + 1)) := T0.to (by rw [T0.2]; exact zI_add _ 1)
      obtain ⟨g1, g2⟩ := gA (sk n tb p + 1) (by omega)
      refine hA _ (sk n tb p + 1) T _ (by omega) (by omega) T2 (by rw [pf_ne _ _ (by decide)]; exact hw) (by rw [pf_ne _ _ (by decide)]; exact hd) (S0.of f2) (fun e h1 he w1 B1 f1 => ?_) (fun p' t h1 he T1 w1 d1 S1 f1 => ?_)
      · have ge := g1 e he
        rw [he, bnd_l] at Kl
        obtain ⟨b1, b2', b3, b4⟩ := putB hr B1 (by omega) (zI j) (zI (0 : Nat))
        have w2 : (g_M_put (zI j) (zI (0 : Nat)) h1).1 0 4 = zI e := by rw [b3]; exact w1
        refine ⟨b1, fun z => absurd (w2 ▸ z) (nz_e (by omega)), fun _ => ?_⟩
        refine w_M_sum_21 _ ⟨fun z => absurd z (by decide), fun _ => ⟨fun z => absurd z (by decide), fun _ => ?_⟩⟩
        exact Kl e _ rfl w2 (b2'.up (by omega)) ((mfr.of f2 (by decide)).tr (f1.tr b4))
      · obtain ⟨a1, a2, a3, a4⟩ := g2 p' t he
        rw [he, bnd_r] at Kl Kr
        obtain ⟨b1, b2', b3, b4⟩ := putT hr S1 (by rw [List.length_append]; omega) j 0
        have w2 : (g_M_put (zI j) (zI (0 : Nat)) h1).1 0 4 = -1 := by rw [b3]; exact w1
        have T3 : AtM n tb p' (g_M_put (zI j) (zI (0 : Nat)) h1) := ⟨⟨by rw [b3]; exact T1.1.1, fun i hi => by rw [b4.1.2.1 1 (by decide)]; exact T1.1.2 i hi⟩, by rw [b3]; exact T1.2⟩
        have fr3 : mfr r hm (g_M_put (zI j) (zI (0 : Nat)) h1) := (mfr.of f2 (by decide)).tr (f1.tr b4)
        refine ⟨b1, fun _ => look_m ok a2 T3 (fun h2 T2' f2' => ?_), fun z => absurd w2 z⟩
        have fr4 : mfr r hm h2 := fr3.tr (mfr.of f2' (by decide))
        have lT : (T ++ t ++ [(j, 0)]).length = T.length + t.length + 1 := by simp; omega
        refine ih (n - p') (by omega) p' f' (T ++ t ++ [(j, 0)]) h2 (by omega) (by omega) (by omega) T2' ((f2'.1 _ _ (by decide)).trans w2) ((f2'.1 _ _ (by decide)).trans (by rw [b3]; exact d1)) (b2'.of f2') (fun e h' he' w' B' f' => ?_) (fun p'' x h' he' T' w' d' S' f' => ?_)
        · obtain ⟨z1, -⟩ := gl_lp (n := n) (tb := tb) (P := fun _ => True) (Q := vS) (cs := csS) (A := A) (by decide) gA (fun _ _ _ _ _ _ _ => trivial) _ p' [] a2 trivial
          have := z1 e he'
          refine Kl e h' (by rw [he']; rfl) w' (B'.up (by omega)) (fr4.tr f')
        · refine Kr p'' _ h' (by rw [he']; rfl) T' w' d' ?_ (fr4.tr f')
          rw [show T ++ (t ++ ([(j, 0)] ++ x)) = T ++ t ++ [(j, 0)] ++ x by simp]; exact S'
    refine w_M_sum_21 _ ⟨fun z => ?_, fun z => ⟨fun z2 => ?_, fun z2 => ?_⟩⟩
    · have z := q1.mp z
      exact go 2 (by rw [z]; rfl) (by omega)
    · have z2 := q2.mp z2
      exact go 3 (by rw [z2]; rfl) (by omega)
    · have hn : csS (chA n tb (sk n tb p)) = none := by unfold csS; rw [if_neg (fun y => z (q1.mpr y)), if_neg (fun y => z2 (q2.mpr y))]
      rw [lpO_stop hn] at Kr
      refine Kr _ _ hm rfl T0 hw hd ?_ mfr.rf
      rw [List.append_nil]; exact S0
theorem su_m {G : rx_Gh} (ok : TOk n tb) (hr : r < 5) {k : Nat} (hk : k ≤ 6) {A : Nat → Rs} (gA : ∀ q, q ≤ n → gd n vS q (A q)) (hA : CtM n tb r G (4 * k + 11) q_M_term k A) : CtM n tb r G (4 * k + 12) q_M_sum k (fun p => bnd (A p) (fun p' t => lpO n tb csS A n p' t)) := by
  intro F p T hm hp hT T0 hw hd S0 Kl Kr
  have o1 := ok.1
  simp only at Kl Kr
  obtain ⟨g1, g2⟩ := gA p hp
  refine w_M_sum (hA _ p T hm hp hT T0 hw hd S0 (fun e h1 he w1 B1 f1 => ?_) (fun p' t h1 he T1 w1 d1 S1 f1 => ?_))
  · have ge := g1 e he
    rw [he, bnd_l] at Kl
    refine ⟨fun z => absurd (w1 ▸ z) (nz_e (by omega)), fun _ => ?_⟩
    refine w_M_sum_21 _ ⟨fun z => absurd z (by decide), fun _ => ⟨fun z => absurd z (by decide), fun _ => ?_⟩⟩
    exact Kl e h1 rfl w1 B1 f1
  · obtain ⟨a1, a2, a3, a4⟩ := g2 p' t he
    have el : lpO n tb csS A n p' t = bnd (lpO n tb csS A n p' []) (fun p'' x => .inr (p'', t ++ x)) := by
      have := lpO_pre (n := n) (tb := tb) (cs := csS) (A := A) t n p' []
      rwa [List.append_nil] at this
    rw [he, bnd_r, el] at Kl Kr
    refine ⟨fun _ => look_m ok a2 T1 (fun h2 T2 f2 => ?_), fun z => absurd w1 z⟩
    have fr2 : mfr r hm h2 := f1.tr (mfr.of f2 (by decide))
    refine su_m_lp ok hr hk gA hA (n - p') p' n (T ++ t) h2 (by omega) (by omega) (by rw [List.length_append]; omega) T2 ((f2.1 _ _ (by decide)).trans w1) ((f2.1 _ _ (by decide)).trans d1) (S1.of f2) (fun e h' he' w' B' f' => ?_) (fun p'' x h' he' T' w' d' S' f' => ?_)
    · obtain ⟨z1, -⟩ := gl_lp (n := n) (tb := tb) (P := fun _ => True) (Q := vS) (cs := csS) (A := A) (by decide) gA (fun _ _ _ _ _ _ _ => trivial) n p' [] a2 trivial
      have := z1 e he'
      exact Kl e h' (by rw [he']; rfl) w' (B'.up (by rw [List.length_append]; omega)) (fr2.tr f')
    · refine Kr p'' _ h' (by rw [he']; rfl) T' w' d' ?_ (fr2.tr f')
      rw [← List.append_assoc]; exact S'
theorem sum_mm {G : rx_Gh} (ok : TOk n tb) (hr : r < 5) : ∀ k, k ≤ 6 → CtM n tb r G (4 * k + 12) q_M_sum k (sS n tb k)
  | 0, hk => by
    rw [sS_eq]
    exact su_m ok hr hk (fun q hq => gd_tm (fun q hq => gd_A ok 0 hq) hq) (te_m ok hr hk (fun q hq => gd_A ok 0 hq) (am_m ok hr hk (fun k' h => absurd h (by omega))))
  | k + 1, hk => by
    rw [sS_eq]
    exact su_m ok hr hk (fun q hq => gd_tm (fun q hq => gd_A ok (k + 1) hq) hq) (te_m ok hr hk (fun q hq => gd_A ok (k + 1) hq) (am_m ok hr hk (fun k' h => by
      have : k' = k := by omega
      subst this
      exact sum_mm ok hr k' (by omega))))
end LRM

/-! the model's reader of lights: comparisons, units, conditions -/
section LRN
variable {n : Nat} {tb : Nat → Nat} {r : Nat}
theorem sig_m : ∀ b : Fin 256, f_M_isSign (zM (b : Nat)) = b2 (isS (b : Nat)) ∧ ((if zM (b : Nat) = 61 then 6 else ((if zM (b : Nat) = 60 then 7 else 8) : Int32)) : Int32) = zI (cmK (b : Nat) : Nat) := by decide +kernel
theorem AtM.pt {p : Nat} {a b : Int32} {h : rx_Hp} (T : AtM n tb p h) (e : (g_M_put a b h).1 = h.1) (f : mfr r h (g_M_put a b h)) : AtM n tb p (g_M_put a b h) := ⟨⟨by rw [e]; exact T.1.1, fun i hi => by rw [f.1.2.1 1 (by decide)]; exact T.1.2 i hi⟩, by rw [e]; exact T.2⟩
theorem cmp_m {G : rx_Gh} (ok : TOk n tb) (hr : r < 5) {k : Nat} (hk : k ≤ 6) (hS : CtM n tb r G (4 * k + 12) q_M_sum k (sS n tb k)) : CtM n tb r G (4 * k + 13) q_M_compare k (cmQ n tb k) := by
  intro F p T hm hp hT T0 hw hd S0 Kl Kr
  have o1 := ok.1
  have s1 := sk_ge (tb := tb) hp
  have s2 := sk_le (tb := tb) hp
  have cl := chA_le ok (sk n tb p)
  obtain ⟨x1, x2⟩ := sig_m ⟨chA n tb (sk n tb p), by omega⟩
  simp only at x1 x2
  refine w_M_compare ⟨fun _ => look_m ok hp T0 (fun h1 T1 f1 => ?_), fun z => absurd hw z⟩
  rw [x1, x2]
  have w1 : h1.1 0 4 = -1 := (f1.1 _ _ (by decide)).trans hw
  have d1 : h1.1 0 5 = zI ((6 - k : Nat) : Int) := (f1.1 _ _ (by decide)).trans hd
  have S1 := S0.of f1
  have fr1 : mfr r hm h1 := mfr.of f1 (by decide)
  unfold cmQ at Kl Kr
  refine ⟨fun c => ?_, fun c => ?_⟩
  · have c := (b2_0 _).mp c
    rw [if_neg (by rw [c]; decide)] at Kl
    obtain ⟨b1, b2'⟩ := bad_m T1 w1
    exact Kl _ _ rfl b1 ((S1.bd (by omega)).of b2') (fr1.tr (mfr.of b2' (by decide)))
  · have c := b2_t c
    rw [if_pos c] at Kl Kr
    have hlt : sk n tb p < n := by rcases isS_0 c with h | h | h <;> exact chA_lt h (by omega)
    have f2 : Fr [(0, 3)] [] h1 (rx_pf h1 0 3 (h1.1 0 3 + 1)) := Fr.rf.pf (by decide)
    have T2 : AtM n tb (sk n tb p + 1) (rx_pf h1 0 3 (h1.1 0 3 + 1)) := T1.to (by rw [T1.2]; exact zI_add _ 1)
    obtain ⟨g1, g2⟩ := gd_S ok k (sk n tb p + 1) (by omega)
    have fr2 : mfr r hm (rx_pf h1 0 3 (h1.1 0 3 + 1)) := fr1.tr (mfr.of f2 (by decide))
    refine hS _ (sk n tb p + 1) T _ (by omega) (by omega) T2 (by rw [pf_ne _ _ (by decide)]; exact w1) (by rw [pf_ne _ _ (by decide)]; exact d1) (S1.of f2) (fun e h3 he w3 B3 f3 => ?_) (fun p' t h3 he T3 w3 d3 S3 f3 => ?_)
    · have ge := g1 e he
      rw [he, bnd_l] at Kl
      obtain ⟨b1, b2', b3, b4⟩ := putB hr B3 (by omega) (zI (cmK (chA n tb (sk n tb p)) : Nat)) (zI (0 : Nat))
      exact ⟨b1, Kl e _ rfl (by show (g_M_put _ (zI (0 : Nat)) h3).1 0 4 = _; rw [b3]; exact w3) (b2'.up (by omega)) (fr2.tr (f3.tr b4))⟩
    · obtain ⟨a1, a2, a3, a4⟩ := g2 p' t he
      rw [he, bnd_r] at Kr
      obtain ⟨b1, b2', b3, b4⟩ := putT hr S3 (by rw [List.length_append]; omega) (cmK (chA n tb (sk n tb p))) 0
      refine ⟨b1, Kr p' _ _ rfl (T3.pt b3 b4) (by show (g_M_put _ (zI (0 : Nat)) h3).1 0 4 = _; rw [b3]; exact w3) (by show (g_M_put _ (zI (0 : Nat)) h3).1 0 5 = _; rw [b3]; exact d3) ?_ (fr2.tr (f3.tr b4))⟩
      rw [← List.append_assoc]; exact b2'
theorem ga_f {G : rx_Gh} {F : rx_Hp → Prop} {d e : Nat} (he : e ≤ 1000) {hm : rx_Hp} (hw : hm.1 0 4 = zI e) (K : F hm) : Ev wM G (d + 41) q_M_goOnAnd [.ref 0] hm (rV F) := w_M_goOnAnd (w_M_goOnAnd_0 ⟨fun z => absurd (hw ▸ z) (nz_e he), fun _ => K⟩)
theorem go_f {G : rx_Gh} {F : rx_Hp → Prop} {d e : Nat} (he : e ≤ 1000) {hm : rx_Hp} (hw : hm.1 0 4 = zI e) (K : F hm) : Ev wM G (d + 42) q_M_goOnOr [.ref 0] hm (rV F) := w_M_goOnOr (w_M_goOnOr_0 ⟨fun z => absurd (hw ▸ z) (nz_e he), fun _ => K⟩)
theorem gl_and (ok : TOk n tb) (k : Nat) {p : Nat} (hp : p ≤ n) (f : Nat) : gl n (fun _ => True) p [] (lpO n tb csA (uU n tb k) f p []) := gl_lp (P := fun _ => True) (Q := vC) (by decide) (fun q hq => gd_U ok k q hq) (fun _ _ _ _ _ _ _ => trivial) f p [] hp trivial
theorem gl_or (ok : TOk n tb) (k : Nat) {p : Nat} (hp : p ≤ n) (f : Nat) : gl n (fun _ => True) p [] (lpO n tb csO (anP n tb (uU n tb k)) f p []) := gl_lp (P := fun _ => True) (Q := vC) (by decide) (fun q hq => gd_bnd (gd_U ok k q hq) (fun p' t _ _ a2 _ a4 => gl_lp (by decide) (fun q hq => gd_U ok k q hq) (fun c k a b h ha hb => csA_P h ha hb) n p' t a2 a4)) (fun _ _ _ _ _ _ _ => trivial) f p [] hp trivial
theorem ga_lp {G : rx_Gh} {F : rx_Hp → Prop} (ok : TOk n tb) (hr : r < 5) {k : Nat} (hk : k ≤ 6) (hU : CtM n tb r G (4 * k + 40) q_M_unit k (uU n tb k)) : ∀ (m p f : Nat) (T : List Tk) (hm : rx_Hp), p + m = n → n - p ≤ f → T.length + (n - p) ≤ 160 → AtM n tb p hm → hm.1 0 4 = -1 → hm.1 0 5 = zI ((6 - k : Nat) : Int) → MTk r T hm → (∀ e h', lpO n tb csA (uU n tb k) f p [] = .inl e → h'.1 0 4 = zI e → MBd r (T.length + (e - p)) h' → mfr r hm h' → F h') → (∀ p' t h', lpO n tb csA (uU n tb k) f p [] = .inr (p', t) → AtM n tb p' h' → h'.1 0 4 = -1 → h'.1 0 5 = zI ((6 - k : Nat) : Int) → MTk r (T ++ t) h' → mfr r hm h' → F h') → Rn wM G (4 * k + 41) q_M_goOnAnd 0 [some (.ref 0)] [] hm (rV F) := by
  have o1 := ok.1
  intro m
  induction m using Nat.strongRecOn with
  | ind m ih =>
    intro p f T hm hpm hf hT T0 hw hd S0 Kl Kr
    have hp : p ≤ n := by omega
    have s1 := sk_ge (tb := tb) hp
    have s2 := sk_le (tb := tb) hp
    have cl := chA_le ok (sk n tb p)
    have q1 : zM (chA n tb (sk n tb p)) = 38 ↔ chA n tb (sk n tb p) = 38 := zM_eq cl (k := 38) (by omega) (by omega)
    refine w_M_goOnAnd_0 ⟨fun _ => look_m ok hp T0 (fun h1 T1 f1 => ?_), fun z => absurd hw z⟩
    have w1 : h1.1 0 4 = -1 := (f1.1 _ _ (by decide)).trans hw
    have d1 : h1.1 0 5 = zI ((6 - k : Nat) : Int) := (f1.1 _ _ (by decide)).trans hd
    have S1 := S0.of f1
    have fr1 : mfr r hm h1 := mfr.of f1 (by decide)
    rw [q1]
    refine ⟨fun c => ?_, fun c => ?_⟩
    · have hlt := chA_lt c (by omega)
      have hj : csA (chA n tb (sk n tb p)) = some 10 := by rw [c]; rfl
      obtain ⟨f', rfl⟩ : ∃ f', f = f' + 1 := ⟨f - 1, by omega⟩
      have eL : lpO n tb csA (uU n tb k) (f' + 1) p [] = bnd (uU n tb k (sk n tb p + 1)) (fun p' t => bnd (lpO n tb csA (uU n tb k) f' p' []) (fun p'' x => .inr (p'', t ++ ([(10, 0)] ++ x)))) := by
        rw [lpO_go hj]
        congr 1
        funext p' t
        rw [List.nil_append]
        have := lpO_pre (n := n) (tb := tb) (cs := csA) (A := uU n tb k) (t ++ [(10, 0)]) f' p' []
        rw [List.append_nil] at this
        rw [this]
        congr 1
        funext p'' x
        rw [List.append_assoc]
      rw [eL] at Kl Kr
      have f2 : Fr [(0, 3)] [] h1 (rx_pf h1 0 3 (h1.1 0 3 + 1)) := Fr.rf.pf (by decide)
      have T2 : AtM n tb (sk n tb p + 1) (rx_pf h1 0 3 (h1.1 0 3 + 1)) := T1.to (by rw [T1.2]; exact zI_add _ 1)
      have fr2 : mfr r hm (rx_pf h1 0 3 (h1.1 0 3 + 1)) := fr1.tr (mfr.of f2 (by decide))
      obtain ⟨g1, g2⟩ := gd_U ok k (sk n tb p + 1) (by omega)
      refine hU _ (sk n tb p + 1) T _ (by omega) (by omega) T2 (by rw [pf_ne _ _ (by decide)]; exact w1) (by rw [pf_ne _ _ (by decide)]; exact d1) (S1.of f2) (fun e h3 he w3 B3 f3 => ?_) (fun p' t h3 he T3 w3 d3 S3 f3 => ?_)
      · have ge := g1 e he
        rw [he, bnd_l] at Kl
        obtain ⟨b1, b2', b3, b4⟩ := putB hr B3 (by omega) (zI (10 : Nat)) (zI (0 : Nat))
        have w2 : (g_M_put (zI (10 : Nat)) (zI (0 : Nat)) h3).1 0 4 = zI e := by rw [b3]; exact w3
        refine ⟨b1, w_M_goOnAnd_0 ⟨fun z => ?_, fun _ => ?_⟩⟩
        · have z : (g_M_put (zI (10 : Nat)) (zI (0 : Nat)) h3).1 0 4 = -1 := z
          exact absurd (w2 ▸ z) (nz_e (by omega))
        · exact Kl e _ rfl w2 (b2'.up (by omega)) (fr2.tr (f3.tr b4))
      · obtain ⟨a1, a2, a3, a4⟩ := g2 p' t he
        rw [he, bnd_r] at Kl Kr
        obtain ⟨b1, b2', b3, b4⟩ := putT hr S3 (by rw [List.length_append]; omega) 10 0
        have fr4 : mfr r hm (g_M_put (zI (10 : Nat)) (zI (0 : Nat)) h3) := fr2.tr (f3.tr b4)
        have lT : (T ++ t ++ [(10, 0)]).length = T.length + t.length + 1 := by simp; omega
        have R := ih (n - p') (by omega) p' f' (T ++ t ++ [(10, 0)]) (g_M_put (zI (10 : Nat)) (zI (0 : Nat)) h3) (by omega) (by omega) (by omega) (T3.pt b3 b4) (by rw [b3]; exact w3) (by rw [b3]; exact d3) b2' (fun e h' he' w' B' f' => by
          have := (gl_and ok k a2 _).1 e he'
          exact Kl e h' (by rw [he']; rfl) w' (B'.up (by omega)) (fr4.tr f')) (fun p'' x h' he' T' w' d' S' f' => by
          refine Kr p'' _ h' (by rw [he']; rfl) T' w' d' ?_ (fr4.tr f')
          rw [show T ++ (t ++ ([(10, 0)] ++ x)) = T ++ t ++ [(10, 0)] ++ x by simp]; exact S')
        exact ⟨b1, R⟩
    · have hn : csA (chA n tb (sk n tb p)) = none := by unfold csA; rw [if_neg c]
      rw [lpO_stop hn] at Kr
      refine Kr _ _ h1 rfl T1 w1 d1 ?_ fr1
      rw [List.append_nil]; exact S1
theorem ga_m {G : rx_Gh} (ok : TOk n tb) (hr : r < 5) {k : Nat} (hk : k ≤ 6) (hU : CtM n tb r G (4 * k + 40) q_M_unit k (uU n tb k)) : CtM n tb r G (4 * k + 41) q_M_goOnAnd k (fun p => lpO n tb csA (uU n tb k) n p []) := fun F p T hm hp hT T0 hw hd S0 Kl Kr => w_M_goOnAnd (ga_lp ok hr hk hU (n - p) p n T hm (by omega) (by omega) hT T0 hw hd S0 Kl Kr)
/-- a reader, and what goes on behind it -/
theorem anP_eq (U : Nat → Rs) (p : Nat) : anP n tb U p = bnd (U p) (fun p' t => bnd (lpO n tb csA U n p' []) (fun p'' x => .inr (p'', t ++ x))) := by
  unfold anP
  congr 1
  funext p' t
  have := lpO_pre (n := n) (tb := tb) (cs := csA) (A := U) t n p' []
  rwa [List.append_nil] at this
theorem gr_lp {G : rx_Gh} {F : rx_Hp → Prop} (ok : TOk n tb) (hr : r < 5) {k : Nat} (hk : k ≤ 6) (hU : CtM n tb r G (4 * k + 40) q_M_unit k (uU n tb k)) : ∀ (m p f : Nat) (T : List Tk) (hm : rx_Hp), p + m = n → n - p ≤ f → T.length + (n - p) ≤ 160 → AtM n tb p hm → hm.1 0 4 = -1 → hm.1 0 5 = zI ((6 - k : Nat) : Int) → MTk r T hm → (∀ e h', lpO n tb csO (anP n tb (uU n tb k)) f p [] = .inl e → h'.1 0 4 = zI e → MBd r (T.length + (e - p)) h' → mfr r hm h' → F h') → (∀ p' t h', lpO n tb csO (anP n tb (uU n tb k)) f p [] = .inr (p', t) → AtM n tb p' h' → h'.1 0 4 = -1 → h'.1 0 5 = zI ((6 - k : Nat) : Int) → MTk r (T ++ t) h' → mfr r hm h' → F h') → Rn wM G (4 * k + 42) q_M_goOnOr 0 [some (.ref 0)] [] hm (rV F) := by
  have o1 := ok.1
  intro m
  induction m using Nat.strongRecOn with
  | ind m ih =>
    intro p f T hm hpm hf hT T0 hw hd S0 Kl Kr
    have hp : p ≤ n := by omega
    have s1 := sk_ge (tb := tb) hp
    have s2 := sk_le (tb := tb) hp
    have cl := chA_le ok (sk n tb p)
    have q1 : zM (chA n tb (sk n tb p)) = 124 ↔ chA n tb (sk n tb p) = 124 := zM_eq cl (k := 124) (by omega) (by omega)
    refine w_M_goOnOr_0 ⟨fun _ => look_m ok hp T0 (fun h1 T1 f1 => ?_), fun z => absurd hw z⟩
    have w1 : h1.1 0 4 = -1 := (f1.1 _ _ (by decide)).trans hw
    have d1 : h1.1 0 5 = zI ((6 - k : Nat) : Int) := (f1.1 _ _ (by decide)).trans hd
    have S1 := S0.of f1
    have fr1 : mfr r hm h1 := mfr.of f1 (by decide)
    rw [q1]
    refine ⟨fun c => ?_, fun c => ?_⟩
    · have hlt := chA_lt c (by omega)
      have hj : csO (chA n tb (sk n tb p)) = some 11 := by rw [c]; rfl
      obtain ⟨f', rfl⟩ : ∃ f', f = f' + 1 := ⟨f - 1, by omega⟩
      have eL : lpO n tb csO (anP n tb (uU n tb k)) (f' + 1) p [] = bnd (uU n tb k (sk n tb p + 1)) (fun p1 t1 => bnd (lpO n tb csA (uU n tb k) n p1 []) (fun p' x1 => bnd (lpO n tb csO (anP n tb (uU n tb k)) f' p' []) (fun p'' x => .inr (p'', (t1 ++ x1) ++ ([(11, 0)] ++ x))))) := by
        rw [lpO_go hj, anP_eq, bnd_bnd]
        congr 1
        funext p1 t1
        rw [bnd_bnd]
        congr 1
        funext p' x1
        rw [bnd_r, List.nil_append]
        have := lpO_pre (n := n) (tb := tb) (cs := csO) (A := anP n tb (uU n tb k)) ((t1 ++ x1) ++ [(11, 0)]) f' p' []
        rw [List.append_nil] at this
        rw [this]
        congr 1
        funext p'' x
        rw [List.append_assoc]
      rw [eL] at Kl Kr
      have f2 : Fr [(0, 3)] [] h1 (rx_pf h1 0 3 (h1.1 0 3 + 1)) := Fr.rf.pf (by decide)
      have T2 : AtM n tb (sk n tb p + 1) (rx_pf h1 0 3 (h1.1 0 3 + 1)) := T1.to (by rw [T1.2]; exact zI_add _ 1)
      have fr2 : mfr r hm (rx_pf h1 0 3 (h1.1 0 3 + 1)) := fr1.tr (mfr.of f2 (by decide))
      obtain ⟨g1, g2⟩ := gd_U ok k (sk n tb p + 1) (by omega)
      -- after a fault
      have fault : ∀ (e b : Nat) (h4 : rx_Hp), e ≤ n → sk n tb p + 1 ≤ e → h4.1 0 4 = zI e → MBd r b h4 → b + 1 ≤ T.length + (e - p) → mfr r hm h4 → (∀ h', h'.1 0 4 = zI e → MBd r (T.length + (e - p)) h' → mfr r hm h' → F h') → p_M_put (zI (11 : Nat)) (zI (0 : Nat)) h4 ∧ Rn wM G (4 * k + 42) q_M_goOnOr 0 [some (.ref 0)] [] (g_M_put (zI (11 : Nat)) (zI (0 : Nat)) h4) (rV F) := by
        intro e b h4 he1 he2 w4 B4 hb f4 K
        obtain ⟨b1, b2', b3, b4⟩ := putB hr B4 (by omega) (zI (11 : Nat)) (zI (0 : Nat))
        have w5 : (g_M_put (zI (11 : Nat)) (zI (0 : Nat)) h4).1 0 4 = zI e := by rw [b3]; exact w4
        refine ⟨b1, w_M_goOnOr_0 ⟨fun z => absurd (w5 ▸ z) (nz_e (by omega)), fun _ => K _ w5 (b2'.up (by omega)) (f4.tr b4)⟩⟩
      refine hU _ (sk n tb p + 1) T _ (by omega) (by omega) T2 (by rw [pf_ne _ _ (by decide)]; exact w1) (by rw [pf_ne _ _ (by decide)]; exact d1) (S1.of f2) (fun e h3 he w3 B3 f3 => ?_) (fun p1 t1 h3 he T3 w3 d3 S3 f3 => ?_)
      · have ge := g1 e he
        rw [he, bnd_l] at Kl
        exact ga_f (e := e) (by omega) w3 (fault e _ h3 (by omega) (by omega) w3 B3 (by omega) (fr2.tr f3) (fun h' => Kl e h' rfl))
      · obtain ⟨a1, a2, a3, a4⟩ := g2 p1 t1 he
        rw [he, bnd_r] at Kl Kr
        have ga := gl_and (n := n) (tb := tb) ok k a2 n
        refine ga_m ok hr hk hU _ p1 (T ++ t1) h3 a2 (by rw [List.length_append]; omega) T3 w3 d3 S3 (fun e h4 he4 w4 B4 f4 => ?_) (fun p' x1 h4 he4 T4 w4 d4 S4 f4 => ?_)
        · simp only at he4
          have ge := ga.1 e he4
          rw [he4, bnd_l] at Kl
          refine fault e _ h4 (by omega) (by omega) w4 B4 ?_ (fr2.tr (f3.tr f4)) (fun h' => Kl e h' rfl)
          rw [List.length_append]; omega
        · simp only at he4
          obtain ⟨c1, c2, c3, -⟩ := ga.2 p' x1 he4
          rw [List.length_nil] at c3
          rw [he4, bnd_r] at Kl Kr
          rw [List.append_assoc] at S4
          obtain ⟨b1, b2', b3, b4⟩ := putT hr S4 (by simp only [List.length_append]; omega) 11 0
          have fr5 : mfr r hm (g_M_put (zI (11 : Nat)) (zI (0 : Nat)) h4) := fr2.tr (f3.tr (f4.tr b4))
          have lT : (T ++ (t1 ++ x1) ++ [(11, 0)]).length = T.length + t1.length + x1.length + 1 := by simp; omega
          have R := ih (n - p') (by omega) p' f' (T ++ (t1 ++ x1) ++ [(11, 0)]) (g_M_put (zI (11 : Nat)) (zI (0 : Nat)) h4) (by omega) (by omega) (by omega) (T4.pt b3 b4) (by rw [b3]; exact w4) (by rw [b3]; exact d4) b2' (fun e h' he' w' B' f' => by
            have := (gl_or ok k c2 _).1 e he'
            exact Kl e h' (by rw [he']; rfl) w' (B'.up (by omega)) (fr5.tr f')) (fun p'' x h' he' T' w' d' S' f' => by
            refine Kr p'' _ h' (by rw [he']; rfl) T' w' d' ?_ (fr5.tr f')
            rw [show T ++ ((t1 ++ x1) ++ ([(11, 0)] ++ x)) = T ++ (t1 ++ x1) ++ [(11, 0)] ++ x by simp]; exact S')
          exact ⟨b1, R⟩
    · have hn : csO (chA n tb (sk n tb p)) = none := by unfold csO; rw [if_neg c]
      rw [lpO_stop hn] at Kr
      refine Kr _ _ h1 rfl T1 w1 d1 ?_ fr1
      rw [List.append_nil]; exact S1
theorem gr_m {G : rx_Gh} (ok : TOk n tb) (hr : r < 5) {k : Nat} (hk : k ≤ 6) (hU : CtM n tb r G (4 * k + 40) q_M_unit k (uU n tb k)) : CtM n tb r G (4 * k + 42) q_M_goOnOr k (fun p => lpO n tb csO (anP n tb (uU n tb k)) n p []) := fun F p T hm hp hT T0 hw hd S0 Kl Kr => w_M_goOnOr (gr_lp ok hr hk hU (n - p) p n T hm (by omega) (by omega) hT T0 hw hd S0 Kl Kr)
theorem cdT_eq (U : Nat → Rs) (x : Rs) : cdT n tb U x = bnd x (fun p t => bnd (lpO n tb csA U n p []) (fun p1 x1 => bnd (lpO n tb csO (anP n tb U) n p1 []) (fun p2 x2 => .inr (p2, (t ++ x1) ++ x2)))) := by
  unfold cdT
  rw [bnd_bnd]
  congr 1
  funext p t
  have := lpO_pre (n := n) (tb := tb) (cs := csA) (A := U) t n p []
  rw [List.append_nil] at this
  rw [this, bnd_bnd]
  congr 1
  funext p1 x1
  rw [bnd_r]
  have := lpO_pre (n := n) (tb := tb) (cs := csO) (A := anP n tb U) (t ++ x1) n p1 []
  rwa [List.append_nil] at this
/-- and, or behind a unit that was read -/
theorem gao_m {G : rx_Gh} {F : rx_Hp → Prop} (ok : TOk n tb) (hr : r < 5) {k : Nat} (hk : k ≤ 6) (hU : CtM n tb r G (4 * k + 40) q_M_unit k (uU n tb k)) {p : Nat} {T t : List Tk} {hm : rx_Hp} (hp : p ≤ n) (hT : T.length + t.length + (n - p) ≤ 160) (T0 : AtM n tb p hm) (hw : hm.1 0 4 = -1) (hd : hm.1 0 5 = zI ((6 - k : Nat) : Int)) (S0 : MTk r (T ++ t) hm) (Kl : ∀ e h', cdT n tb (uU n tb k) (.inr (p, t)) = .inl e → h'.1 0 4 = zI e → MBd r (T.length + t.length + (e - p)) h' → mfr r hm h' → F h') (Kr : ∀ p' x h', cdT n tb (uU n tb k) (.inr (p, t)) = .inr (p', x) → AtM n tb p' h' → h'.1 0 4 = -1 → h'.1 0 5 = zI ((6 - k : Nat) : Int) → MTk r (T ++ x) h' → mfr r hm h' → F h') : Ev wM G (4 * k + 41) q_M_goOnAnd [.ref 0] hm (rV fun h2 => Ev wM G (4 * k + 42) q_M_goOnOr [.ref 0] h2 (rV F)) := by
  have o1 := ok.1
  rw [cdT_eq, bnd_r] at Kl Kr
  have ga := gl_and (n := n) (tb := tb) ok k hp n
  refine ga_m ok hr hk hU _ p (T ++ t) hm hp (by rw [List.length_append]; omega) T0 hw hd S0 (fun e h1 he w1 B1 f1 => ?_) (fun p1 x1 h1 he T1 w1 d1 S1 f1 => ?_)
  · simp only at he
    have ge := ga.1 e he
    rw [he, bnd_l] at Kl
    refine go_f (e := e) (by omega) w1 (Kl e h1 rfl w1 (B1.up (by rw [List.length_append]; omega)) f1)
  · simp only at he
    obtain ⟨c1, c2, c3, -⟩ := ga.2 p1 x1 he
    rw [List.length_nil] at c3
    rw [he, bnd_r] at Kl Kr
    have go := gl_or (n := n) (tb := tb) ok k c2 n
    rw [List.append_assoc] at S1
    refine gr_m ok hr hk hU _ p1 (T ++ (t ++ x1)) h1 c2 (by simp only [List.length_append]; omega) T1 w1 d1 S1 (fun e h2 he2 w2 B2 f2 => ?_) (fun p2 x2 h2 he2 T2 w2 d2 S2 f2 => ?_)
    · simp only at he2
      have ge := go.1 e he2
      refine Kl e h2 (by rw [he2]; rfl) w2 (B2.up (by simp only [List.length_append]; omega)) (f1.tr f2)
    · simp only at he2
      refine Kr p2 _ h2 (by rw [he2]; rfl) T2 w2 d2 ?_ (f1.tr f2)
      rw [show T ++ ((t ++ x1) ++ x2) = T ++ (t ++ x1) ++ x2 by simp]; exact S2
theorem cond_m {G : rx_Gh} (ok : TOk n tb) (hr : r < 5) {k : Nat} (hk : k ≤ 6) (hU : CtM n tb r G (4 * k + 40) q_M_unit k (uU n tb k)) : CtM n tb r G (4 * k + 43) q_M_condition k (cC n tb k) := by
  intro F p T hm hp hT T0 hw hd S0 Kl Kr
  have o1 := ok.1
  unfold cC at Kl Kr
  obtain ⟨g1, g2⟩ := gd_U ok k p hp
  refine w_M_condition (hU _ p T hm hp hT T0 hw hd S0 (fun e h1 he w1 B1 f1 => ?_) (fun p' t h1 he T1 w1 d1 S1 f1 => ?_))
  · have ge := g1 e he
    rw [he] at Kl
    exact ga_f (e := e) (by omega) w1 (go_f (e := e) (by omega) w1 (Kl e h1 rfl w1 B1 f1))
  · obtain ⟨a1, a2, a3, a4⟩ := g2 p' t he
    rw [he] at Kl Kr
    refine gao_m ok hr hk hU a2 (by omega) T1 w1 d1 S1 (fun e h' he' w' B' f' => ?_) (fun p'' x h' he' T' w' d' S' f' => Kr p'' x h' he' T' w' d' S' (f1.tr f'))
    have gv : gd n vC p (cdT n tb (uU n tb k) (uU n tb k p)) := gd_cd _ (fun q hq => gd_U ok k q hq) (gd_U ok k p hp)
    rw [he] at gv
    have g3 := gv.1 e he'
    have g4 : p' ≤ e := by
      rw [cdT_eq, bnd_r] at he'
      have ga := gl_and (n := n) (tb := tb) ok k a2 n
      cases e1 : lpO n tb csA (uU n tb k) n p' [] with
      | inl e'' =>
        rw [e1] at he'
        cases he'
        exact (ga.1 _ e1).1
      | inr y =>
        obtain ⟨p1, x1⟩ := y
        obtain ⟨c1, c2, c3, -⟩ := ga.2 p1 x1 e1
        rw [e1, bnd_r] at he'
        have go := gl_or (n := n) (tb := tb) ok k c2 n
        cases e2 : lpO n tb csO (anP n tb (uU n tb k)) n p1 [] with
        | inl e'' =>
          rw [e2] at he'
          cases he'
          have := (go.1 _ e2).1; omega
        | inr y => rw [e2] at he'; cases he'
    exact Kl e h' he' w' (B'.up (by omega)) (f1.tr f')
theorem unit_m {G : rx_Gh} (ok : TOk n tb) (hr : r < 5) {k : Nat} (hk : k ≤ 6) (hU : ∀ k', k = k' + 1 → CtM n tb r G (4 * k' + 40) q_M_unit k' (uU n tb k')) : CtM n tb r G (4 * k + 40) q_M_unit k (uU n tb k) := by
  intro F p T hm hp hT T0 hw hd S0 Kl Kr
  have o1 := ok.1
  have s1 := sk_ge (tb := tb) hp
  have s2 := sk_le (tb := tb) hp
  have cl := chA_le ok (sk n tb p)
  refine w_M_unit (look_m ok hp T0 (fun h1 T1 f1 => ?_))
  have w1 : h1.1 0 4 = -1 := (f1.1 _ _ (by decide)).trans hw
  have d1 : h1.1 0 5 = zI ((6 - k : Nat) : Int) := (f1.1 _ _ (by decide)).trans hd
  have S1 := S0.of f1
  have fr1 : mfr r hm h1 := mfr.of f1 (by decide)
  have q33 : zM (chA n tb (sk n tb p)) = 33 ↔ chA n tb (sk n tb p) = 33 := zM_eq cl (k := 33) (by omega) (by omega)
  have q40 : zM (chA n tb (sk n tb p)) = 40 ↔ chA n tb (sk n tb p) = 40 := zM_eq cl (k := 40) (by omega) (by omega)
  obtain ⟨o1', o2', o3'⟩ := ops_m hk T1 w1 d1 S1
  have k1 : (g_M_opens h1).1 0 4 = -1 → 1 ≤ k := by
    intro w2
    by_cases z : k = 0
    · rw [(o2' z).1] at w2
      exact absurd w2 (nz_e (by omega))
    · omega
  have deep : ¬ (g_M_opens h1).1 0 4 = -1 → (chA n tb (sk n tb p) = 33 ∨ chA n tb (sk n tb p) = 40) → F (g_M_opens h1) := by
    intro w2 hc2
    have hk0 : k = 0 := by
      by_cases z : k = 0
      · exact z
      · exact absurd (o1' (by omega)).2.1 w2
    subst hk0
    obtain ⟨y1, y2⟩ := o2' rfl
    refine Kl (sk n tb p) _ ?_ y1 (y2.bd (by omega)) (fr1.tr o3')
    unfold uU; rw [if_pos hc2]
  rw [q33, q40]
  refine ⟨fun c => ⟨fun w2 => ?_, fun w2 => deep w2 (Or.inl c)⟩, fun c => ⟨fun c2 => ⟨fun w2 => ?_, fun w2 => deep w2 (Or.inr c2)⟩, fun c2 => ?_⟩⟩
  · have hlt := chA_lt c (by omega)
    have hk1 := k1 w2
    obtain ⟨t1, t2, t3, t4⟩ := o1' hk1
    obtain ⟨k', rfl⟩ : ∃ k', k = k' + 1 := ⟨k - 1, by omega⟩
    rw [Nat.add_sub_cancel] at t3
    have eU : uU n tb (k' + 1) p = bnd (uU n tb k' (sk n tb p + 1)) (fun p' t => .inr (p', t ++ [(9, 0)])) := by
      conv => lhs; unfold uU
      rw [if_pos c]
    rw [eU] at Kl Kr
    rw [show 4 * (k' + 1) + 36 = 4 * k' + 40 by omega]
    obtain ⟨g1, g2⟩ := gd_U ok k' (sk n tb p + 1) (by omega)
    refine hU k' rfl _ (sk n tb p + 1) T _ (by omega) (by omega) t1 t2 t3 t4 (fun e h3 he w3 B3 f3 => ?_) (fun p' t h3 he T3 w3 d3 S3 f3 => ?_)
    · have ge := g1 e he
      rw [he, bnd_l] at Kl
      obtain ⟨b1, b2', b3, b4⟩ := putB hr B3 (by omega) (zI (9 : Nat)) (zI (0 : Nat))
      have f5 : Fr [(0, 5)] [] (g_M_put (zI (9 : Nat)) (zI (0 : Nat)) h3) (rx_pf (g_M_put (zI (9 : Nat)) (zI (0 : Nat)) h3) 0 5 ((g_M_put (zI (9 : Nat)) (zI (0 : Nat)) h3).1 0 5 - 1)) := Fr.rf.pf (by decide)
      refine ⟨b1, Kl e _ rfl ?_ ((b2'.of f5).up (by omega)) (fr1.tr (o3'.tr (f3.tr (b4.tr (mfr.of f5 (by decide))))))⟩
      show (rx_pf (g_M_put (zI (9 : Nat)) (zI (0 : Nat)) h3) 0 5 _).1 0 4 = _
      rw [pf_ne _ _ (by decide), b3]; exact w3
    · obtain ⟨a1, a2, a3, a4⟩ := g2 p' t he
      rw [he, bnd_r] at Kr
      obtain ⟨b1, b2', b3, b4⟩ := putT hr S3 (by rw [List.length_append]; omega) 9 0
      have f5 : Fr [(0, 5)] [] (g_M_put (zI (9 : Nat)) (zI (0 : Nat)) h3) (rx_pf (g_M_put (zI (9 : Nat)) (zI (0 : Nat)) h3) 0 5 ((g_M_put (zI (9 : Nat)) (zI (0 : Nat)) h3).1 0 5 - 1)) := Fr.rf.pf (by decide)
      refine ⟨b1, Kr p' _ _ rfl ((T3.pt b3 b4).fr f5) ?_ ?_ ?_ (fr1.tr (o3'.tr (f3.tr (b4.tr (mfr.of f5 (by decide))))))⟩
      · show (rx_pf (g_M_put (zI (9 : Nat)) (zI (0 : Nat)) h3) 0 5 _).1 0 4 = _
        rw [pf_ne _ _ (by decide), b3]; exact w3
      · show (rx_pf (g_M_put (zI (9 : Nat)) (zI (0 : Nat)) h3) 0 5 ((g_M_put (zI (9 : Nat)) (zI (0 : Nat)) h3).1 0 5 - 1)).1 0 5 = _
        rw [pf_same, b3, d3, show (1 : Int32) = zI 1 from by decide, zI_sub]; congr 1; omega
      · rw [← List.append_assoc]; exact b2'.of f5
  · have hlt := chA_lt c2 (by omega)
    have hk1 := k1 w2
    obtain ⟨t1, t2, t3, t4⟩ := o1' hk1
    obtain ⟨k', rfl⟩ : ∃ k', k = k' + 1 := ⟨k - 1, by omega⟩
    rw [Nat.add_sub_cancel] at t3
    have eU : uU n tb (k' + 1) p = bnd (cC n tb k' (sk n tb p + 1)) (fun p' t => if chA n tb (sk n tb p') = 41 then .inr (sk n tb p' + 1, t) else .inl (sk n tb p')) := by
      conv => lhs; unfold uU
      rw [if_neg (by omega), if_pos c2]; rfl
    rw [eU] at Kl Kr
    rw [show 4 * (k' + 1) + 39 = 4 * k' + 43 by omega]
    have g := gd_cd (n := n) (tb := tb) _ (fun q hq => gd_U ok k' q hq) (gd_U ok k' (sk n tb p + 1) (by omega))
    refine cond_m ok hr (by omega) (hU k' rfl) _ (sk n tb p + 1) T _ (by omega) (by omega) t1 t2 t3 t4 (fun e h3 he w3 B3 f3 => ?_) (fun p' t h3 he T3 w3 d3 S3 f3 => ?_)
    · have ge := g.1 e he
      rw [he, bnd_l] at Kl
      exact clo_f (e := e) (by omega) w3 B3 (fun h' w' B' f' => Kl e h' rfl w' (B'.up (by omega)) (fr1.tr (o3'.tr (f3.tr f'))))
    · obtain ⟨a1, a2, a3, a4⟩ := g.2 p' t he
      rw [he, bnd_r] at Kl Kr
      have s3 := sk_ge (n := n) (tb := tb) a2
      rw [show (41 : Int32) = zI ((41 : Nat) : Int) from by decide]
      refine clo_m ok (by omega) (by omega) a2 T3 w3 d3 S3 (fun z h' w' B' f' => ?_) (fun z h' T' w' d' S' f' => ?_)
      · rw [if_neg z] at Kl
        exact Kl _ h' rfl w' (B'.up (by rw [List.length_append]; omega)) (fr1.tr (o3'.tr (f3.tr f')))
      · rw [if_pos z] at Kr
        exact Kr _ _ h' rfl T' w' d' S' (fr1.tr (o3'.tr (f3.tr f')))
  · have hn : ¬ (chA n tb (sk n tb p) = 33 ∨ chA n tb (sk n tb p) = 40) := by
      rintro (h | h)
      · exact c h
      · exact c2 h
    have eU : uU n tb k p = bnd (sS n tb k (sk n tb p)) (fun p' t => bnd (cmQ n tb k p') (fun p'' t' => .inr (p'', t ++ t'))) := by
      have : uU n tb k p = bnd (sS n tb k (sk n tb p)) (cmP n tb k) := by
        cases k with
        | zero => unfold uU; rw [if_neg hn]
        | succ k => conv => lhs; unfold uU
                    rw [if_neg (fun z => hn (Or.inl z)), if_neg (fun z => hn (Or.inr z))]
      rw [this]
      congr 1
      funext p' t
      exact cmP_Q k p' t
    rw [eU] at Kl Kr
    obtain ⟨g1, g2⟩ := gd_S ok k (sk n tb p) s2
    refine sum_mm ok hr k hk _ (sk n tb p) T h1 s2 (by omega) T1 w1 d1 S1 (fun e h7 he w7 B7 f7 => ?_) (fun p' t h7 he T7 w7 d7 S7 f7 => ?_)
    · have ge := g1 e he
      rw [he, bnd_l] at Kl
      exact ⟨fun z => absurd (w7 ▸ z) (nz_e (by omega)), fun _ => Kl e h7 rfl w7 (B7.up (by omega)) (fr1.tr f7)⟩
    · obtain ⟨a1, a2, a3, a4⟩ := g2 p' t he
      rw [he, bnd_r] at Kl Kr
      refine ⟨fun _ => ?_, fun z => absurd w7 z⟩
      refine cmp_m ok hr hk (sum_mm ok hr k hk) _ p' (T ++ t) h7 a2 (by rw [List.length_append]; omega) T7 w7 d7 S7 (fun e h' he' w' B' f' => ?_) (fun p'' t' h' he' T' w' d' S' f' => ?_)
      · have := (gd_cmQ ok k a2).1 e he'
        exact Kl e h' (by rw [he']; rfl) w' (B'.up (by rw [List.length_append]; omega)) (fr1.tr (f7.tr f'))
      · refine Kr p'' _ h' (by rw [he']; rfl) T' w' d' ?_ (fr1.tr (f7.tr f'))
        rw [← List.append_assoc]; exact S'
theorem unit_mm {G : rx_Gh} (ok : TOk n tb) (hr : r < 5) : ∀ k, k ≤ 6 → CtM n tb r G (4 * k + 40) q_M_unit k (uU n tb k)
  | 0, hk => unit_m ok hr hk (fun k' h => absurd h (by omega))
  | k + 1, hk => unit_m ok hr hk (fun k' h => by
      have : k' = k := by omega
      subst this
      exact unit_mm ok hr k' (by omega))
end LRN

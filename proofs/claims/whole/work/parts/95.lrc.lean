/-! the class's reader of lights: atoms, sums -/
def sgC (k : Nat) : Nat := [48, 97, 43, 45, 42, 47, 61, 60, 62, 33, 38, 124, 63, 59].getD k 0
def wZ (w : List Tk) : Int32 := match w with
  | [] => 0
  | t :: _ => zI (sgC t.1 : Nat)
def LTk (o : Nat) (T : List Tk) (hc : rx_Hp) : Prop := hc.2.2 = o ∧ hc.1 o 2 = zI (T.length : Nat) ∧ ∀ i t, T[i]? = some t → hc.2.1 (o + 1) i = zI (sgC t.1 : Nat) ∧ hc.2.1 (o + 2) i = zI (t.2 : Nat)
def ltF (o : Nat) : List (Nat × Nat) := [(1, 2), (o, 2)]
def ltA (o : Nat) : List Nat := [o + 1, o + 2]
theorem isL_ge {o : Nat} (h : isL o) : 16 ≤ o ∧ o ≤ 32 := by rcases h with rfl | rfl | rfl | rfl | rfl | rfl <;> omega
theorem LTk.fr1 {o : Nat} (ho : isL o) {T : List Tk} {a b : rx_Hp} (h : LTk o T a) (f : Fr [(1, 2)] [] a b) : LTk o T b := by
  have := isL_ge ho
  obtain ⟨h1, h2, h3⟩ := h
  refine ⟨f.2.2.trans h1, (f.1 o 2 (by simp <;> omega)).trans h2, fun i t ht => ?_⟩
  rw [f.2.1 (o + 1) (by simp), f.2.1 (o + 2) (by simp)]; exact h3 i t ht
theorem Fr.lt1 {o : Nat} {a b : rx_Hp} (f : Fr [(1, 2)] [] a b) : Fr (ltF o) (ltA o) a b := f.mono (by unfold ltF; simp) (by simp)
theorem add_c {o : Nat} (ho : isL o) {T : List Tk} {hc : rx_Hp} (h : LTk o T hc) (hT : T.length < 160) (k v : Nat) : p_Li_add o (zI (sgC k : Nat)) (zI v) hc ∧ LTk o (T ++ [(k, v)]) (g_Li_add o (zI (sgC k : Nat)) (zI v) hc) ∧ Fr [(o, 2)] (ltA o) hc (g_Li_add o (zI (sgC k : Nat)) (zI v) hc) := by
  obtain ⟨h1, h2, h3⟩ := h
  have c : ¬ 160 ≤ hc.1 o 2 := by rw [h2, show (160 : Int32) = zI 160 from by decide, zI_le (by omega) (by omega)]; omega
  unfold p_Li_add g_Li_add
  rw [if_neg c, h2, zI_cN (by omega)]
  refine ⟨fun _ => vp_N (by omega) (by omega), ⟨h1, ?_, fun i t ht => ?_⟩, ((Fr.rf.pa (by unfold ltA; simp)).pa (by unfold ltA; simp)).pf (by simp)⟩
  · rw [pf_same, List.length_append, List.length_singleton]; exact zI_add _ 1
  · rw [pf_a]
    by_cases q : i < T.length
    · rw [List.getElem?_append_left q] at ht
      rw [pa_ne _ _ (by simp), pa_ne _ _ (by simp <;> omega), pa_ne _ _ (by simp <;> omega), pa_ne _ _ (by simp)]
      exact h3 i t ht
    · have hi : i = T.length := by
        have := (List.getElem?_eq_some_iff.mp ht).1
        rw [List.length_append, List.length_singleton] at this; omega
      subst hi
      rw [List.getElem?_append_right (Nat.le_refl _), Nat.sub_self] at ht
      have ht : (k, v) = t := by simpa using ht
      subst ht
      rw [pa_ne _ _ (by simp), pa_same, pa_same]
      exact ⟨rfl, rfl⟩
theorem AtC.lt {n : Nat} {tb : Nat → Nat} {o p : Nat} (ho : isL o) {a b : rx_Hp} (h : AtC n tb p a) (f : Fr [(o, 2)] (ltA o) a b) : AtC n tb p b := by
  have := isL_ge ho
  refine ⟨⟨(f.1 1 1 (by simp <;> omega)).trans h.1.1, fun i hi => ?_⟩, (f.1 1 2 (by simp <;> omega)).trans h.2⟩
  rw [f.2.1 2 (by unfold ltA; simp <;> omega)]; exact h.1.2 i hi
theorem Fr.lt2 {o : Nat} {a b : rx_Hp} (f : Fr [(o, 2)] (ltA o) a b) : Fr (ltF o) (ltA o) a b := f.mono (by unfold ltF; simp) (fun _ h => h)
section LRC
variable {n : Nat} {tb : Nat → Nat} {o : Nat}
/-- a reader's contract: it reads r -/
def CtC (n : Nat) (tb : Nat → Nat) (o : Nat) (G : rx_Gh) (d : Nat) (q : rx_Mi) (as : List Value) (r : Nat → Rs) : Prop := ∀ (F : Int32 → rx_Hp → Prop) (p : Nat) (T : List Tk) (hc : rx_Hp), p ≤ n → T.length + (n - p) ≤ 160 → AtC n tb p hc → LTk o T hc → (∀ e h', r p = .inl e → AtC n tb e h' → Fr (ltF o) (ltA o) hc h' → F 0 h') → (∀ p' t h', r p = .inr (p', t) → AtC n tb p' h' → LTk o (T ++ t) h' → Fr (ltF o) (ltA o) hc h' → F 1 h') → Ev wC G d q as hc (rI F)
theorem z6 {k : Nat} (hk : k ≤ 6) : zI ((6 - k : Nat) : Int) < 6 ↔ 1 ≤ k := by rw [show (6 : Int32) = zI 6 from by decide, zI_lt (by omega) (by omega)]; omega
theorem z6s {k : Nat} (hk : k + 1 ≤ 6) : zI ((6 - (k + 1) : Nat) : Int) + 1 = zI ((6 - k : Nat) : Int) := by rw [show (1 : Int32) = zI 1 from by decide, zI_add]; congr 1; omega
theorem ixZ_neg {x : Option Nat} (h : ∀ k, x = some k → k < 6) : ixZ x < 0 ↔ x = none := by
  cases x with
  | none => simp [ixZ]
  | some k =>
    have := h k rfl
    simp only [reduceCtorEq, iff_false]
    show ¬ zI (k : Int) < 0
    have z := zI_lt (a := (k : Int)) (b := 0) (by omega) (by omega)
    rw [show zI 0 = (0 : Int32) from by decide] at z
    rw [z]; omega
theorem at_c {G : rx_Gh} (ok : TOk n tb) (ho : isL o) {k : Nat} (hk : k ≤ 6) (hS : ∀ k', k = k' + 1 → CtC n tb o G (2 * k' + 11) q_LR_readSum [.ref 15, .int (zI ((6 - k' : Nat) : Int))] (sS n tb k')) : CtC n tb o G (2 * k + 10) q_LR_readAtom [.ref 15, .int (zI ((6 - k : Nat) : Int))] (aA n tb k) := by
  intro F p T hc hp hT T0 S0 Kl Kr
  have s1 := sk_ge (tb := tb) hp
  have s2 := sk_le (tb := tb) hp
  have cl := chA_le ok (sk n tb p)
  refine w_LR_readAtom _ (look_c ok hp T0 (fun h1 T1 f1 => ?_))
  have S1 := S0.fr1 ho f1
  have fr1 : Fr (ltF o) (ltA o) hc h1 := f1.lt1
  rw [show (91 : Int32) = zI 91 from by decide, zI_eq (by omega) (by omega), z6 hk]
  have T2 : AtC n tb (sk n tb p + 1) (rx_pf h1 1 2 (h1.1 1 2 + 1)) := T1.to (by rw [T1.2]; exact zI_add _ 1)
  have f2 : Fr [(1, 2)] [] h1 (rx_pf h1 1 2 (h1.1 1 2 + 1)) := Fr.rf.pf (by decide)
  have S2 := S1.fr1 ho f2
  refine ⟨fun c => ⟨fun d => ?_, fun d => ?_⟩, fun c => ?_⟩
  · have c : chA n tb (sk n tb p) = 91 := by omega
    have hlt := chA_lt c (by omega)
    obtain ⟨k', rfl⟩ : ∃ k', k = k' + 1 := ⟨k - 1, by omega⟩
    have eA : aA n tb (k' + 1) p = bnd (sS n tb k' (sk n tb p + 1)) (fun p' t => if chA n tb (sk n tb p') = 93 then .inr (sk n tb p' + 1, t) else .inl (sk n tb p')) := by
      show pAt n tb true (sS n tb k') p = _
      unfold pAt; rw [if_pos c, if_pos rfl]
    rw [eA] at Kl Kr
    rw [z6s (by omega), show 2 * (k' + 1) + 9 = 2 * k' + 11 by omega]
    refine hS k' rfl _ (sk n tb p + 1) T _ (by omega) (by omega) T2 S2 (fun e h3 he T3 f3 => ?_) (fun p' t h3 he T3 S3 f3 => ?_)
    · rw [he, bnd_l] at Kl
      exact ⟨fun _ => Kl e h3 rfl T3 (fr1.tr (f2.lt1.tr f3)), fun c => absurd rfl c⟩
    · rw [he, bnd_r] at Kl Kr
      obtain ⟨-, g2⟩ := gd_S ok k' (sk n tb p + 1) (by omega)
      obtain ⟨a1, a2, a3, a4⟩ := g2 p' t he
      have cl2 := chA_le ok (sk n tb p')
      refine ⟨fun c => absurd c (by decide), fun _ => look_c ok a2 T3 (fun h5 T5 f5 => ?_)⟩
      rw [show (93 : Int32) = zI 93 from by decide, zI_eq (by omega) (by omega)]
      have fr5 : Fr (ltF o) (ltA o) hc h5 := fr1.tr (f2.lt1.tr (f3.tr f5.lt1))
      have S5 := S3.fr1 ho f5
      refine ⟨fun z => ?_, fun z => ?_⟩
      · rw [if_pos (by omega)] at Kr
        have f6 : Fr [(1, 2)] [] h5 (rx_pf h5 1 2 (h5.1 1 2 + 1)) := Fr.rf.pf (by decide)
        exact Kr _ _ _ rfl (T5.to (by rw [T5.2]; exact zI_add _ 1)) (S5.fr1 ho f6) (fr5.tr f6.lt1)
      · rw [if_neg (by omega)] at Kl
        exact Kl _ h5 rfl T5 fr5
  · have c : chA n tb (sk n tb p) = 91 := by omega
    have hk0 : k = 0 := by omega
    subst hk0
    refine Kl (sk n tb p) h1 ?_ T1 fr1
    show pAt n tb false (fun _ => .inl 0) p = _
    unfold pAt; rw [if_pos c]; rfl
  · have c : ¬ chA n tb (sk n tb p) = 91 := by omega
    have eA : aA n tb k p = (match ixN ixL (chA n tb (sk n tb p)) with | some l => .inr (sk n tb p + 1, [(1, l)]) | none => (match numA n tb 4 (sk n tb p) with | .inl e => .inl e | .inr (p', v) => .inr (p', [(0, v)]))) := by
      cases k with
      | zero =>
        show pAt n tb false (fun _ => .inl 0) p = _
        unfold pAt; rw [if_neg c]
        cases ixN ixL (chA n tb (sk n tb p)) with
        | some l => rfl
        | none => simp only; cases numA n tb 4 (sk n tb p) <;> rfl
      | succ k =>
        show pAt n tb true (sS n tb k) p = _
        unfold pAt; rw [if_neg c]
        cases ixN ixL (chA n tb (sk n tb p)) with
        | some l => rfl
        | none => simp only; cases numA n tb 4 (sk n tb p) <;> rfl
    rw [eA] at Kl Kr
    rw [i2c_ok ⟨chA n tb (sk n tb p), by omega⟩]
    refine ix_t (by omega) ?_
    have zn := ixZ_neg (x := ixN ixL (chA n tb (sk n tb p))) (fun l hl => (ixL_6 cl hl).1)
    rw [zn]
    cases e : ixN ixL (chA n tb (sk n tb p)) with
    | none =>
      rw [e] at Kl Kr
      simp only at Kl Kr
      refine ⟨fun _ => ?_, fun z => absurd rfl z⟩
      rw [show (4 : Int32) = zI ((4 : Nat) : Int) from by decide]
      obtain ⟨-, nb2⟩ := numA_bd (n := n) (tb := tb) s2
      refine num_c ok (by omega) (by omega) s2 T1 (fun e' h9 he T9 f9 => ?_) (fun p' v h9 he T9 f9 => ?_)
      · rw [he] at Kl
        exact ⟨fun _ => Kl e' h9 rfl T9 (fr1.tr f9.lt1), fun z => absurd rfl z⟩
      · obtain ⟨b1, b2, b3⟩ := nb2 p' v he
        rw [he] at Kr
        have nv : ¬ zI (v : Int) = -1 := by rw [show (-1 : Int32) = zI (-1) from by decide, zI_eq (by omega) (by omega)]; omega
        have S9 := S1.fr1 ho f9
        have h92 : h9.2.2 = o := S9.1
        rw [h92]
        obtain ⟨q1, q2, q3⟩ := add_c ho S9 (by omega) 0 v
        refine ⟨fun z => absurd z nv, fun _ => ⟨ho, q1, ?_⟩⟩
        exact Kr p' _ _ rfl (T9.lt ho q3) q2 (fr1.tr (f9.lt1.tr q3.lt2))
    | some l =>
      have l6 := (ixL_6 cl e).1
      have hlt : sk n tb p < n := by
        by_cases z : sk n tb p < n
        · exact z
        · have : chA n tb (sk n tb p) = 0 := by unfold chA; rw [if_neg z]
          rw [this, show ixN ixL 0 = none from by decide] at e; cases e
      rw [e] at Kr
      simp only at Kr
      have h12 : h1.2.2 = o := S1.1
      refine ⟨fun z => (by cases z), fun _ => ?_⟩
      rw [h12]
      obtain ⟨q1, q2, q3⟩ := add_c ho S2 (by omega) 1 l
      exact ⟨ho, q1, Kr _ _ _ rfl (T2.lt ho q3) q2 (fr1.tr (f2.lt1.tr q3.lt2))⟩
theorem lpO_stop {cs : Nat → Option Nat} {A : Nat → Rs} {f p : Nat} {ts : List Tk} (h : cs (chA n tb (sk n tb p)) = none) : lpO n tb cs A f p ts = .inr (sk n tb p, ts) := by
  cases f with
  | zero => rfl
  | succ f => unfold lpO; rw [h]
theorem lpO_go {cs : Nat → Option Nat} {A : Nat → Rs} {f p k : Nat} {ts : List Tk} (h : cs (chA n tb (sk n tb p)) = some k) : lpO n tb cs A (f + 1) p ts = bnd (A (sk n tb p + 1)) (fun p' t => lpO n tb cs A f p' (ts ++ (t ++ [(k, 0)]))) := by
  conv => lhs; unfold lpO
  rw [h]
/-- what a flat reader still reads: pending joins w, terms so far PS, the term at hand ct -/
def rFl (cs1 cs2 : Nat → Option Nat) (A : Nat → Rs) (w PS : List Tk) (f1 f2 p : Nat) (ct : List Tk) : Rs := bnd (lpO n tb cs1 A f1 p ct) (fun p1 ct' => lpO n tb cs2 (fun p => bnd (A p) (fun p' t => lpO n tb cs1 A n p' t)) f2 p1 (PS ++ (ct' ++ w)))
theorem su_c {G : rx_Gh} (ok : TOk n tb) (ho : isL o) {k : Nat} (hk : k ≤ 6) (hA : CtC n tb o G (2 * k + 10) q_LR_readAtom [.ref 15, .int (zI ((6 - k : Nat) : Int))] (aA n tb k)) : CtC n tb o G (2 * k + 11) q_LR_readSum [.ref 15, .int (zI ((6 - k : Nat) : Int))] (sS n tb k) := by
  intro F p T hc hp hT T0 S0 Kl Kr
  have o1 := ok.1
  have lp : ∀ (m p i : Nat) (w PS ct : List Tk) (f1 f2 : Nat) (hx : rx_Hp), p + m = n → 2 * i ≤ p → n - p ≤ f1 → n - p ≤ f2 → (w = [] ∨ w = [(2, 0)] ∨ w = [(3, 0)]) → T.length + (PS ++ ct).length + w.length + (n - p) ≤ 160 → AtC n tb p hx → LTk o (T ++ (PS ++ ct)) hx → (∀ e h', rFl (n := n) (tb := tb) csT csS (aA n tb k) w PS f1 f2 p ct = .inl e → AtC n tb e h' → Fr (ltF o) (ltA o) hx h' → F 0 h') → (∀ p' t h', rFl (n := n) (tb := tb) csT csS (aA n tb k) w PS f1 f2 p ct = .inr (p', t) → AtC n tb p' h' → LTk o (T ++ t) h' → Fr (ltF o) (ltA o) hx h' → F 1 h') → Rn wC G (2 * k + 11) q_LR_readSum 14 [some (.ref 15), some (.int (zI ((6 - k : Nat) : Int))), some (.int (wZ w)), some (.int (zI i)), none, none] [] hx (rI F) := by
    intro m
    induction m using Nat.strongRecOn with
    | ind m ih =>
      intro p i w PS ct f1 f2 hx hpm hi hf1 hf2 hw hT T0 S0 Kl Kr
      have hp : p ≤ n := by omega
      have s1 := sk_ge (tb := tb) hp
      have s2 := sk_le (tb := tb) hp
      have cl := chA_le ok (sk n tb p)
      have hcn : ¬ 160 ≤ zI (i : Int) := by rw [show (160 : Int32) = zI 160 from by decide, zI_le (by omega) (by omega)]; omega
      refine w_LR_readSum_14 _ _ _ ⟨fun c => absurd c hcn, fun _ => look_c ok hp T0 (fun h1 T1 f1' => ?_)⟩
      have S1 := S0.fr1 ho f1'
      have fr1 : Fr (ltF o) (ltA o) hx h1 := f1'.lt1
      have h12 : h1.2.2 = o := S1.1
      have T2 : AtC n tb (sk n tb p + 1) (rx_pf h1 1 2 (h1.1 1 2 + 1)) := T1.to (by rw [T1.2]; exact zI_add _ 1)
      have f2' : Fr [(1, 2)] [] h1 (rx_pf h1 1 2 (h1.1 1 2 + 1)) := Fr.rf.pf (by decide)
      have S2 := S1.fr1 ho f2'
      have ei : zI (i : Int) + 1 = zI ((i + 1 : Nat) : Int) := zI_add i 1
      rw [ei]
      -- the sign
      have q43 : zI (chA n tb (sk n tb p) : Nat) = 43 ↔ chA n tb (sk n tb p) = 43 := by rw [show (43 : Int32) = zI 43 from by decide, zI_eq (by omega) (by omega)]; omega
      have q45 : zI (chA n tb (sk n tb p) : Nat) = 45 ↔ chA n tb (sk n tb p) = 45 := by rw [show (45 : Int32) = zI 45 from by decide, zI_eq (by omega) (by omega)]; omega
      have q42 : zI (chA n tb (sk n tb p) : Nat) = 42 ↔ chA n tb (sk n tb p) = 42 := by rw [show (42 : Int32) = zI 42 from by decide, zI_eq (by omega) (by omega)]; omega
      have q47 : zI (chA n tb (sk n tb p) : Nat) = 47 ↔ chA n tb (sk n tb p) = 47 := by rw [show (47 : Int32) = zI 47 from by decide, zI_eq (by omega) (by omega)]; omega
      -- what waits is put down
      have w0 : (wZ w) = 0 ↔ w = [] := by
        rcases hw with rfl | rfl | rfl
        · simp [wZ]
        · simp only [reduceCtorEq, iff_false]; decide
        · simp only [reduceCtorEq, iff_false]; decide
      have putw : ∀ hy : rx_Hp, hy.2.2 = o → LTk o (T ++ (PS ++ ct)) hy → ¬ w = [] → p_Li_add o (wZ w) 0 hy ∧ LTk o (T ++ (PS ++ (ct ++ w))) (g_Li_add o (wZ w) 0 hy) ∧ Fr [(o, 2)] (ltA o) hy (g_Li_add o (wZ w) 0 hy) := by
        intro hy _ Sy hn0
        have key : ∀ j, w = [(j, 0)] → p_Li_add o (zI (sgC j : Nat)) 0 hy ∧ LTk o (T ++ (PS ++ (ct ++ w))) (g_Li_add o (zI (sgC j : Nat)) 0 hy) ∧ Fr [(o, 2)] (ltA o) hy (g_Li_add o (zI (sgC j : Nat)) 0 hy) := by
          intro j hj
          have hl : w.length = 1 := by rw [hj]; rfl
          obtain ⟨a1, a2, a3⟩ := add_c ho Sy (by rw [List.length_append]; omega) j 0
          refine ⟨a1, ?_, a3⟩
          rw [hj, show T ++ (PS ++ (ct ++ [(j, 0)])) = T ++ (PS ++ ct) ++ [(j, 0)] by simp]
          exact a2
        rcases hw with rfl | rfl | rfl
        · exact absurd rfl hn0
        · exact key 2 rfl
        · exact key 3 rfl
      have stopK : csT (chA n tb (sk n tb p)) = none → csS (chA n tb (sk n tb p)) = none → rFl (n := n) (tb := tb) csT csS (aA n tb k) w PS f1 f2 p ct = .inr (sk n tb p, PS ++ (ct ++ w)) := by
        intro z1 z2
        unfold rFl
        rw [lpO_stop z1, bnd_r, lpO_stop (by rw [sk_sk hp]; exact z2), sk_sk hp]
      by_cases jt : chA n tb (sk n tb p) = 43 ∨ chA n tb (sk n tb p) = 45
      · -- a join of terms
        have hlt : sk n tb p < n := by rcases jt with h | h <;> exact chA_lt h (by omega)
        have ej : ((if zI (chA n tb (sk n tb p) : Nat) = 43 then 1 else ((if zI (chA n tb (sk n tb p) : Nat) = 45 then 1 else 0) : Int32)) : Int32) = 1 := by
          rcases jt with h | h
          · rw [if_pos (q43.mpr h)]
          · rw [if_neg (fun z => by have := q43.mp z; omega), if_pos (q45.mpr h)]
        rw [ej]
        obtain ⟨j, hj1, hj2, hj3⟩ : ∃ j, csS (chA n tb (sk n tb p)) = some j ∧ zI (chA n tb (sk n tb p) : Nat) = zI (sgC j : Nat) ∧ (j = 2 ∨ j = 3) := by
          rcases jt with h | h
          · exact ⟨2, by rw [h]; rfl, by rw [h]; rfl, Or.inl rfl⟩
          · exact ⟨3, by rw [h]; rfl, by rw [h]; rfl, Or.inr rfl⟩
        have zT : csT (chA n tb (sk n tb p)) = none := by rcases jt with h | h <;> (rw [h]; rfl)
        obtain ⟨f2p, rfl⟩ : ∃ f2p, f2 = f2p + 1 := ⟨f2 - 1, by omega⟩
        have eR : rFl (n := n) (tb := tb) csT csS (aA n tb k) w PS f1 (f2p + 1) p ct = bnd (aA n tb k (sk n tb p + 1)) (fun p' t => rFl (n := n) (tb := tb) csT csS (aA n tb k) [(j, 0)] (PS ++ (ct ++ w)) n f2p p' t) := by
          unfold rFl
          rw [lpO_stop zT, bnd_r, lpO_go (k := j) (by rw [sk_sk hp]; exact hj1), sk_sk hp, bnd_bnd]
        rw [eR] at Kl Kr
        -- then an atom
        have nextA : ∀ hy : rx_Hp, AtC n tb (sk n tb p + 1) hy → LTk o (T ++ (PS ++ (ct ++ w))) hy → Fr (ltF o) (ltA o) hx hy → Ev wC G (2 * k + 10) q_LR_readAtom [.ref 15, .int (zI ((6 - k : Nat) : Int))] hy (rI fun r8 h7 => (r8 = 0 → F 0 h7) ∧ (¬ r8 = 0 → Rn wC G (2 * k + 11) q_LR_readSum 14 [some (.ref 15), some (.int (zI ((6 - k : Nat) : Int))), some (.int (zI (chA n tb (sk n tb p) : Nat))), some (.int (zI ((i + 1 : Nat) : Int))), none, none] [] h7 (rI F))) := by
          intro hy Ty Sy fy
          refine hA _ (sk n tb p + 1) (T ++ (PS ++ (ct ++ w))) hy (by omega) ?_ Ty Sy (fun e h7 he T7 f7 => ?_) (fun p' t h7 he T7 S7 f7 => ?_)
          · simp only [List.length_append] at hT ⊢; omega
          · rw [he, bnd_l] at Kl
            exact ⟨fun _ => Kl e h7 rfl T7 (fy.tr f7), fun z => absurd rfl z⟩
          · rw [he] at Kl Kr
            obtain ⟨-, g2⟩ := gd_A ok k (p := sk n tb p + 1) (by omega)
            obtain ⟨a1, a2, a3, a4⟩ := g2 p' t he
            refine ⟨fun z => absurd z (by decide), fun _ => ?_⟩
            rw [hj2]
            refine ih (n - p') (by omega) p' (i + 1) [(j, 0)] (PS ++ (ct ++ w)) t n f2p h7 (by omega) (by omega) (by omega) (by omega) (by rcases hj3 with rfl | rfl; exact Or.inr (Or.inl rfl); exact Or.inr (Or.inr rfl)) ?_ T7 ?_ (fun e h' he' T' f' => Kl e h' he' T' (fy.tr (f7.tr f'))) (fun p'' t' h' he' T' S' f' => Kr p'' t' h' he' T' S' (fy.tr (f7.tr f')))
            · simp only [List.length_append, List.length_singleton] at hT ⊢; omega
            · rw [show T ++ ((PS ++ (ct ++ w)) ++ t) = T ++ (PS ++ (ct ++ w)) ++ t by simp]; exact S7
        refine ⟨fun z => absurd z (by decide), fun _ => ⟨fun z => ?_, fun z => ?_⟩⟩
        · have z := w0.mp z
          refine nextA _ T2 ?_ (fr1.tr f2'.lt1)
          rw [z, List.append_nil]; exact S2
        · have z := mt w0.mpr z
          rw [h12]
          obtain ⟨a1, a2, a3⟩ := putw _ S2.1 S2 z
          exact ⟨ho, a1, nextA _ (T2.lt ho a3) a2 (fr1.tr (f2'.lt1.tr a3.lt2))⟩
      · have ej : ((if zI (chA n tb (sk n tb p) : Nat) = 43 then 1 else ((if zI (chA n tb (sk n tb p) : Nat) = 45 then 1 else 0) : Int32)) : Int32) = 0 := by
          rw [if_neg (fun z => jt (Or.inl (q43.mp z))), if_neg (fun z => jt (Or.inr (q45.mp z)))]
        have zS : csS (chA n tb (sk n tb p)) = none := by unfold csS; rw [if_neg (fun z => jt (Or.inl z)), if_neg (fun z => jt (Or.inr z))]
        rw [ej]
        refine ⟨fun _ => ?_, fun z => absurd rfl z⟩
        -- a join of atoms
        have atoms : ∀ j, csT (chA n tb (sk n tb p)) = some j → zI (chA n tb (sk n tb p) : Nat) = zI (sgC j : Nat) → 0 < chA n tb (sk n tb p) → Ev wC G (2 * k + 10) q_LR_readAtom [.ref 15, .int (zI ((6 - k : Nat) : Int))] (rx_pf h1 1 2 (h1.1 1 2 + 1)) (rI fun r4 h3 => (r4 = 0 → F 0 h3) ∧ (¬ r4 = 0 → isL h3.2.2 ∧ (p_Li_add h3.2.2 (zI (chA n tb (sk n tb p) : Nat)) 0 h3 ∧ (Rn wC G (2 * k + 11) q_LR_readSum 14 [some (.ref 15), some (.int (zI ((6 - k : Nat) : Int))), some (.int (wZ w)), some (.int (zI ((i + 1 : Nat) : Int))), none, none] [] (g_Li_add h3.2.2 (zI (chA n tb (sk n tb p) : Nat)) 0 h3) (rI F))))) := by
          intro j hj1 hj2 hc0
          have hlt : sk n tb p < n := chA_lt rfl hc0
          obtain ⟨f1p, rfl⟩ : ∃ f1p, f1 = f1p + 1 := ⟨f1 - 1, by omega⟩
          have eR : rFl (n := n) (tb := tb) csT csS (aA n tb k) w PS (f1p + 1) f2 p ct = bnd (aA n tb k (sk n tb p + 1)) (fun p' t => rFl (n := n) (tb := tb) csT csS (aA n tb k) w PS f1p f2 p' (ct ++ (t ++ [(j, 0)]))) := by
            unfold rFl
            rw [lpO_go hj1, bnd_bnd]
          rw [eR] at Kl Kr
          refine hA _ (sk n tb p + 1) (T ++ (PS ++ ct)) _ (by omega) ?_ T2 S2 (fun e h3 he T3 f3 => ?_) (fun p' t h3 he T3 S3 f3 => ?_)
          · simp only [List.length_append] at hT ⊢; omega
          · rw [he, bnd_l] at Kl
            exact ⟨fun _ => Kl e h3 rfl T3 (fr1.tr (f2'.lt1.tr f3)), fun z => absurd rfl z⟩
          · rw [he] at Kl Kr
            obtain ⟨-, g2⟩ := gd_A ok k (p := sk n tb p + 1) (by omega)
            obtain ⟨a1, a2, a3, a4⟩ := g2 p' t he
            refine ⟨fun z => absurd z (by decide), fun _ => ?_⟩
            rw [S3.1, hj2]
            obtain ⟨b1, b2, b3⟩ := add_c ho S3 (by simp only [List.length_append] at hT ⊢; omega) j 0
            refine ⟨ho, b1, ih (n - p') (by omega) p' (i + 1) w PS (ct ++ (t ++ [(j, 0)])) f1p f2 _ (by omega) (by omega) (by omega) (by omega) hw ?_ (T3.lt ho b3) ?_ (fun e h' he' T' f' => Kl e h' he' T' (fr1.tr (f2'.lt1.tr (f3.tr (b3.lt2.tr f'))))) (fun p'' t' h' he' T' S' f' => Kr p'' t' h' he' T' S' (fr1.tr (f2'.lt1.tr (f3.tr (b3.lt2.tr f')))))⟩
            · simp only [List.length_append, List.length_singleton] at hT ⊢; omega
            · rw [show T ++ (PS ++ (ct ++ (t ++ [(j, 0)]))) = T ++ (PS ++ ct) ++ t ++ [(j, 0)] by simp]; exact b2
        refine ⟨fun z => ?_, fun z => ⟨fun z2 => ?_, fun z2 => ?_⟩⟩
        · have z := q42.mp z
          exact atoms 4 (by rw [z]; rfl) (by rw [z]; rfl) (by omega)
        · have z2 := q47.mp z2
          exact atoms 5 (by rw [z2]; rfl) (by rw [z2]; rfl) (by omega)
        · have zT : csT (chA n tb (sk n tb p)) = none := by unfold csT; rw [if_neg (fun y => z (q42.mpr y)), if_neg (fun y => z2 (q47.mpr y))]
          rw [stopK zT zS] at Kr
          refine ⟨fun y => ?_, fun y => ?_⟩
          · have y := w0.mp y
            refine Kr _ _ h1 rfl T1 ?_ fr1
            rw [y, List.append_nil]; exact S1
          · have y := mt w0.mpr y
            rw [h12]
            obtain ⟨a1, a2, a3⟩ := putw _ S1.1 S1 y
            exact ⟨ho, a1, Kr _ _ _ rfl (T1.lt ho a3) a2 (fr1.tr a3.lt2)⟩
  rw [sS_eq] at Kl Kr
  have eS : smP n tb (aA n tb k) p = bnd (aA n tb k p) (fun p' t => rFl (n := n) (tb := tb) csT csS (aA n tb k) [] [] n n p' t) := by
    unfold smP tmP rFl
    rw [bnd_bnd]
    simp only [List.nil_append, List.append_nil]
  rw [eS] at Kl Kr
  refine w_LR_readSum _ (hA _ p T hc hp hT T0 S0 (fun e h1 he T1 f1 => ?_) (fun p' t h1 he T1 S1 f1 => ?_))
  · rw [he, bnd_l] at Kl
    exact ⟨fun _ => Kl e h1 rfl T1 f1, fun z => absurd rfl z⟩
  · rw [he] at Kl Kr
    obtain ⟨-, g2⟩ := gd_A ok k (p := p) hp
    obtain ⟨a1, a2, a3, a4⟩ := g2 p' t he
    refine ⟨fun z => absurd z (by decide), fun _ => ?_⟩
    exact lp (n - p') p' 0 [] [] t n n h1 (by omega) (by omega) (by omega) (by omega) (Or.inl rfl) (by simp only [List.nil_append, List.length_nil]; omega) T1 S1 (fun e h' he' T' f' => Kl e h' he' T' (f1.tr f')) (fun p'' t' h' he' T' S' f' => Kr p'' t' h' he' T' S' (f1.tr f'))
theorem sum_cc {G : rx_Gh} (ok : TOk n tb) (ho : isL o) : ∀ k, k ≤ 6 → CtC n tb o G (2 * k + 11) q_LR_readSum [.ref 15, .int (zI ((6 - k : Nat) : Int))] (sS n tb k)
  | 0, hk => su_c ok ho hk (at_c ok ho hk (fun k' h => absurd h (by omega)))
  | k + 1, hk => su_c ok ho hk (at_c ok ho hk (fun k' h => by
      have : k' = k := by omega
      subst this
      exact sum_cc ok ho k' (by omega)))
end LRC

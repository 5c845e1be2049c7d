/-! a light as a text: how far it goes, what it leaves -/
section LGD
variable (n : Nat) (tb : Nat → Nat)
def gd (P : List Tk → Prop) (p : Nat) (r : Rs) : Prop := (∀ e, r = .inl e → p ≤ e ∧ e ≤ n) ∧ ∀ p' t, r = .inr (p', t) → p < p' ∧ p' ≤ n ∧ p + t.length ≤ p' ∧ P t
/-- the same with tokens at hand -/
def gl (P : List Tk → Prop) (p : Nat) (ts : List Tk) (r : Rs) : Prop := (∀ e, r = .inl e → p ≤ e ∧ e ≤ n) ∧ ∀ p' t, r = .inr (p', t) → p ≤ p' ∧ p' ≤ n ∧ p + t.length ≤ p' + ts.length ∧ P t
end LGD
section LGE
variable {n : Nat} {tb : Nat → Nat}
theorem gd_bnd {P Q : List Tk → Prop} {p : Nat} {r : Rs} {f : Nat → List Tk → Rs} (h : gd n P p r) (hf : ∀ p' t, r = .inr (p', t) → p < p' → p' ≤ n → p + t.length ≤ p' → P t → gl n Q p' t (f p' t)) : gd n Q p (bnd r f) := by
  cases r with
  | inl e => exact ⟨fun e' he => h.1 e' he, fun p' t he => by cases he⟩
  | inr x =>
    obtain ⟨p', t⟩ := x
    obtain ⟨a1, a2, a3, a4⟩ := h.2 p' t rfl
    obtain ⟨b1, b2⟩ := hf p' t rfl a1 a2 a3 a4
    refine ⟨fun e he => ?_, fun p'' t' he => ?_⟩
    · have := b1 e he; omega
    · obtain ⟨c1, c2, c3, c4⟩ := b2 p'' t' he
      exact ⟨by omega, c2, by omega, c4⟩
theorem gl_inr {P : List Tk → Prop} {p : Nat} {ts : List Tk} {p' : Nat} {t : List Tk} (h1 : p ≤ p') (h2 : p' ≤ n) (h3 : p + t.length ≤ p' + ts.length) (h4 : P t) : gl n P p ts (.inr (p', t)) := by
  refine ⟨fun e he => (by cases he), fun q u he => ?_⟩
  cases he; exact ⟨h1, h2, h3, h4⟩
theorem gl_inl {P : List Tk → Prop} {p : Nat} {ts : List Tk} {e : Nat} (h1 : p ≤ e) (h2 : e ≤ n) : gl n P p ts (.inl e) := by
  refine ⟨fun e' he => ?_, fun q u he => by cases he⟩
  cases he; exact ⟨h1, h2⟩
theorem sk_lt_of {p c : Nat} (hp : p ≤ n) (h : chA n tb (sk n tb p) = c) (hc : 0 < c) : p ≤ sk n tb p ∧ sk n tb p + 1 ≤ n := ⟨sk_ge hp, chA_lt h hc⟩
theorem gl_lp {P Q : List Tk → Prop} {cs : Nat → Option Nat} {A : Nat → Rs} (h0 : cs 0 = none) (hA : ∀ q, q ≤ n → gd n Q q (A q)) (hP : ∀ c k a b, cs c = some k → P a → Q b → P (a ++ (b ++ [(k, 0)]))) : ∀ (f p : Nat) (ts : List Tk), p ≤ n → P ts → gl n P p ts (lpO n tb cs A f p ts)
  | 0, p, ts, hp, ht => gl_inr (sk_ge hp) (sk_le hp) (by have := sk_ge (tb := tb) hp; omega) ht
  | f + 1, p, ts, hp, ht => by
    unfold lpO
    have s1 := sk_ge (tb := tb) hp
    have s2 := sk_le (tb := tb) hp
    cases e : cs (chA n tb (sk n tb p)) with
    | none => exact gl_inr s1 s2 (by omega) ht
    | some k =>
      simp only
      have hlt : sk n tb p < n := by
        by_cases z : sk n tb p < n
        · exact z
        · have : chA n tb (sk n tb p) = 0 := by unfold chA; rw [if_neg z]
          rw [this, h0] at e; cases e
      obtain ⟨a1, a2⟩ := hA (sk n tb p + 1) (by omega)
      cases r : A (sk n tb p + 1) with
      | inl e' =>
        have := a1 e' r
        exact gl_inl (by omega) (by omega)
      | inr x =>
        obtain ⟨p', t⟩ := x
        obtain ⟨b1, b2, b3, b4⟩ := a2 p' t r
        rw [bnd_r]
        obtain ⟨c1, c2⟩ := gl_lp (P := P) (Q := Q) h0 hA hP f p' (ts ++ (t ++ [(k, 0)])) b2 (hP _ k ts t e ht b4)
        refine ⟨fun e' he => ?_, fun p'' t' he => ?_⟩
        · have := c1 e' he; omega
        · obtain ⟨d1, d2, d3, d4⟩ := c2 p'' t' he
          refine ⟨by omega, d2, ?_, d4⟩
          rw [List.length_append, List.length_append, List.length_singleton] at d3
          omega
theorem ixL_lt : ∀ b : Fin 256, (match ixN ixL (b : Nat) with | some k => decide (k < 6) && (decide ((b : Nat) < 48) || decide (57 < (b : Nat))) | none => true) = true := by decide +kernel
theorem ixL_6 {b k : Nat} (hb : b ≤ 255) (h : ixN ixL b = some k) : k < 6 ∧ (b < 48 ∨ 57 < b) := by
  have := ixL_lt ⟨b, by omega⟩
  simp only [h] at this
  simpa using this
theorem numA_bd {q : Nat} (hq : q ≤ n) : (∀ e, numA n tb 4 q = .inl e → q ≤ e ∧ e ≤ n) ∧ (∀ p' v, numA n tb 4 q = .inr (p', v) → q < p' ∧ p' ≤ n ∧ v ≤ 9999) := by
  unfold numA
  by_cases h : dgB n tb q = true
  · rw [if_pos h]
    have d := dg_ch h
    have e1 : nmF n tb 4 q 0 = nmF n tb 3 (q + 1) (10 * 0 + (tb q - 48)) := by
      conv => lhs; unfold nmF
      rw [if_pos h]
    rw [e1]
    obtain ⟨b1, b2⟩ := nmF_bd (n := n) (tb := tb) 3 (q + 1) (10 * 0 + (tb q - 48)) (by omega)
    refine ⟨fun e he => by have := b1 e he; omega, fun p' v he => ?_⟩
    obtain ⟨c1, c2, c3, c4⟩ := b2 p' v he
    refine ⟨by omega, c2, ?_⟩
    have : (10 * 0 + (tb q - 48) + 1) * 10 ^ 3 ≤ 10 * 10 ^ 3 := Nat.mul_le_mul_right _ (by omega)
    have e3 : (10 : Nat) * 10 ^ 3 = 10000 := rfl
    omega
  · rw [if_neg h]
    refine ⟨fun e he => ?_, fun p' v he => by cases he⟩
    cases he; omega
theorem gd_at (ok : TOk n tb) {k : Bool} {S : Nat → Rs} (hS : k = true → ∀ q, q ≤ n → gd n vS q (S q)) {p : Nat} (hp : p ≤ n) : gd n vS p (pAt n tb k S p) := by
  have s1 := sk_ge (tb := tb) hp
  have s2 := sk_le (tb := tb) hp
  have cl := chA_le ok (sk n tb p)
  unfold pAt
  by_cases h : chA n tb (sk n tb p) = 91
  · rw [if_pos h]
    have hlt := chA_lt h (by omega)
    cases k with
    | false =>
      simp only [Bool.false_eq_true, if_false]
      exact ⟨fun e he => (by cases he; omega), fun p' t he => by cases he⟩
    | true =>
      simp only [if_true]
      have g := hS rfl (sk n tb p + 1) (by omega)
      have g2 : gd n vS (sk n tb p + 1) (bnd (S (sk n tb p + 1)) (fun p' t => if chA n tb (sk n tb p') = 93 then .inr (sk n tb p' + 1, t) else .inl (sk n tb p'))) := by
        refine gd_bnd g (fun p' t _ a1 a2 a3 a4 => ?_)
        have s3 := sk_ge (n := n) (tb := tb) a2
        have s4 := sk_le (n := n) (tb := tb) a2
        by_cases q : chA n tb (sk n tb p') = 93
        · rw [if_pos q]
          have := chA_lt q (by omega)
          exact gl_inr (by omega) (by omega) (by omega) a4
        · rw [if_neg q]; exact gl_inl s3 s4
      refine ⟨fun e he => by have := g2.1 e he; omega, fun p' t he => ?_⟩
      obtain ⟨c1, c2, c3, c4⟩ := g2.2 p' t he
      exact ⟨by omega, c2, by omega, c4⟩
  · rw [if_neg h]
    cases e : ixN ixL (chA n tb (sk n tb p)) with
    | some l =>
      have l6 := ixL_6 cl e
      have hlt : sk n tb p < n := by
        by_cases z : sk n tb p < n
        · exact z
        · have : chA n tb (sk n tb p) = 0 := by unfold chA; rw [if_neg z]
          rw [this, show ixN ixL 0 = none from by decide] at e; cases e
      refine ⟨fun e he => (by cases he), fun p' t he => ?_⟩
      cases he
      exact ⟨by omega, by omega, by show p + 1 ≤ _; omega, vS_let l6.1⟩
    | none =>
      simp only
      obtain ⟨b1, b2⟩ := numA_bd (n := n) (tb := tb) s2
      cases e2 : numA n tb 4 (sk n tb p) with
      | inl e' =>
        refine ⟨fun e he => ?_, fun p' t he => by cases he⟩
        cases he
        have := b1 e' e2; omega
      | inr x =>
        obtain ⟨p', v⟩ := x
        obtain ⟨c1, c2, c3⟩ := b2 p' v e2
        refine ⟨fun e he => (by cases he), fun p' t he => ?_⟩
        cases he
        exact ⟨by omega, by omega, by show p + 1 ≤ _; omega, vS_num c3⟩
theorem csT_P {c k : Nat} {a b : List Tk} (h : csT c = some k) (ha : vS a) (hb : vS b) : vS (a ++ (b ++ [(k, 0)])) := by
  unfold csT at h
  by_cases q : c = 42
  · rw [if_pos q] at h; cases h; exact vS_op (by omega) ha hb
  · rw [if_neg q] at h
    by_cases q : c = 47
    · rw [if_pos q] at h; cases h; exact vS_op (by omega) ha hb
    · rw [if_neg q] at h; cases h
theorem csS_P {c k : Nat} {a b : List Tk} (h : csS c = some k) (ha : vS a) (hb : vS b) : vS (a ++ (b ++ [(k, 0)])) := by
  unfold csS at h
  by_cases q : c = 43
  · rw [if_pos q] at h; cases h; exact vS_op (by omega) ha hb
  · rw [if_neg q] at h
    by_cases q : c = 45
    · rw [if_pos q] at h; cases h; exact vS_op (by omega) ha hb
    · rw [if_neg q] at h; cases h
theorem csA_P {c k : Nat} {a b : List Tk} (h : csA c = some k) (ha : vC a) (hb : vC b) : vC (a ++ (b ++ [(k, 0)])) := by
  unfold csA at h
  by_cases q : c = 38
  · rw [if_pos q] at h; cases h; exact vC_op (by omega) ha hb
  · rw [if_neg q] at h; cases h
theorem csO_P {c k : Nat} {a b : List Tk} (h : csO c = some k) (ha : vC a) (hb : vC b) : vC (a ++ (b ++ [(k, 0)])) := by
  unfold csO at h
  by_cases q : c = 124
  · rw [if_pos q] at h; cases h; exact vC_op (by omega) ha hb
  · rw [if_neg q] at h; cases h
theorem gd_tm {A : Nat → Rs} (hA : ∀ q, q ≤ n → gd n vS q (A q)) {p : Nat} (hp : p ≤ n) : gd n vS p (tmP n tb A p) :=
  gd_bnd (hA p hp) (fun p' t _ _ a2 _ a4 => gl_lp (by decide) hA (fun c k a b h ha hb => csT_P h ha hb) n p' t a2 a4)
theorem gd_sm {A : Nat → Rs} (hA : ∀ q, q ≤ n → gd n vS q (A q)) {p : Nat} (hp : p ≤ n) : gd n vS p (smP n tb A p) :=
  gd_bnd (gd_tm hA hp) (fun p' t _ _ a2 _ a4 => gl_lp (by decide) (fun q hq => gd_tm hA hq) (fun c k a b h ha hb => csS_P h ha hb) n p' t a2 a4)
theorem gd_S (ok : TOk n tb) : ∀ (k p : Nat), p ≤ n → gd n vS p (sS n tb k p)
  | 0, p, hp => gd_sm (fun q hq => gd_at ok (fun h => (by cases h)) hq) hp
  | k + 1, p, hp => gd_sm (fun q hq => gd_at ok (fun _ q hq => gd_S ok k q hq) hq) hp
theorem gd_A (ok : TOk n tb) (k : Nat) {p : Nat} (hp : p ≤ n) : gd n vS p (aA n tb k p) := by
  cases k with
  | zero => exact gd_at (k := false) (S := fun _ => .inl 0) ok (fun h => (by cases h)) hp
  | succ k => exact gd_at ok (fun _ q hq => gd_S ok k q hq) hp
theorem cmK_8 {c : Nat} : 6 ≤ cmK c ∧ cmK c ≤ 8 := by unfold cmK; split <;> (try split) <;> omega
theorem isS_0 {c : Nat} (h : isS c = true) : c = 61 ∨ c = 60 ∨ c = 62 := by unfold isS at h; simpa using h
theorem gl_cmp (ok : TOk n tb) (k : Nat) {p : Nat} {t : List Tk} (hp : p ≤ n) (ht : vS t) : gl n vC p t (cmP n tb k p t) := by
  have s1 := sk_ge (tb := tb) hp
  have s2 := sk_le (tb := tb) hp
  unfold cmP
  by_cases h : isS (chA n tb (sk n tb p)) = true
  · rw [if_pos h]
    have hlt : sk n tb p < n := by
      rcases isS_0 h with h | h | h <;> exact chA_lt h (by omega)
    obtain ⟨a1, a2⟩ := gd_S ok k (sk n tb p + 1) (by omega)
    cases r : sS n tb k (sk n tb p + 1) with
    | inl e =>
      have := a1 e r
      exact gl_inl (by omega) (by omega)
    | inr x =>
      obtain ⟨p', t'⟩ := x
      obtain ⟨b1, b2, b3, b4⟩ := a2 p' t' r
      rw [bnd_r]
      refine gl_inr (by omega) b2 ?_ (vC_cmp cmK_8 ht b4)
      rw [List.length_append, List.length_append, List.length_singleton]; omega
  · rw [if_neg h]; exact gl_inl s1 s2
theorem gd_cd (U : Nat → Rs) (hU : ∀ q, q ≤ n → gd n vC q (U q)) {p : Nat} {r : Rs} (hr : gd n vC p r) : gd n vC p (cdT n tb U r) :=
  gd_bnd (gd_bnd hr (fun p' t _ _ a2 _ a4 => gl_lp (by decide) hU (fun c k a b h ha hb => csA_P h ha hb) n p' t a2 a4)) (fun p' t _ _ a2 _ a4 => gl_lp (by decide) (fun q hq => gd_bnd (hU q hq) (fun p' t _ _ a2 _ a4 => gl_lp (by decide) hU (fun c k a b h ha hb => csA_P h ha hb) n p' t a2 a4)) (fun c k a b h ha hb => csO_P h ha hb) n p' t a2 a4)
theorem gd_wk {P : List Tk → Prop} {p q : Nat} {r : Rs} (h : p ≤ q) (g : gd n P q r) : gd n P p r := ⟨fun e he => by have := g.1 e he; omega, fun p' t he => by obtain ⟨c1, c2, c3, c4⟩ := g.2 p' t he; exact ⟨by omega, c2, by omega, c4⟩⟩
theorem gd_U (ok : TOk n tb) : ∀ (k p : Nat), p ≤ n → gd n vC p (uU n tb k p)
  | 0, p, hp => by
    have s1 := sk_ge (tb := tb) hp
    have s2 := sk_le (tb := tb) hp
    unfold uU
    by_cases h : chA n tb (sk n tb p) = 33 ∨ chA n tb (sk n tb p) = 40
    · rw [if_pos h]
      exact ⟨fun e he => (by cases he; omega), fun p' t he => by cases he⟩
    · rw [if_neg h]
      exact gd_wk s1 (gd_bnd (gd_S ok 0 _ s2) (fun p' t _ _ a2 _ a4 => gl_cmp ok 0 a2 a4))
  | k + 1, p, hp => by
    have s1 := sk_ge (tb := tb) hp
    have s2 := sk_le (tb := tb) hp
    unfold uU
    by_cases h : chA n tb (sk n tb p) = 33
    · rw [if_pos h]
      have hlt := chA_lt h (by omega)
      refine gd_wk (q := sk n tb p) s1 ?_
      obtain ⟨a1, a2⟩ := gd_U ok k (sk n tb p + 1) (by omega)
      cases r : uU n tb k (sk n tb p + 1) with
      | inl e => exact ⟨fun e' he => (by cases he; have := a1 e r; omega), fun p' t he => by cases he⟩
      | inr x =>
        obtain ⟨p', t'⟩ := x
        obtain ⟨b1, b2, b3, b4⟩ := a2 p' t' r
        rw [bnd_r]
        refine ⟨fun e he => (by cases he), fun q t he => ?_⟩
        cases he
        refine ⟨by omega, b2, ?_, vC_not b4⟩
        rw [List.length_append, List.length_singleton]; omega
    · rw [if_neg h]
      by_cases h2 : chA n tb (sk n tb p) = 40
      · rw [if_pos h2]
        have hlt := chA_lt h2 (by omega)
        refine gd_wk (q := sk n tb p + 1) (by omega) (gd_bnd (gd_cd _ (fun q hq => gd_U ok k q hq) (gd_U ok k (sk n tb p + 1) (by omega))) (fun p' t _ a1 a2 a3 a4 => ?_))
        have s3 := sk_ge (n := n) (tb := tb) a2
        have s4 := sk_le (n := n) (tb := tb) a2
        by_cases q : chA n tb (sk n tb p') = 41
        · rw [if_pos q]
          have := chA_lt q (by omega)
          exact gl_inr (by omega) (by omega) (by omega) a4
        · rw [if_neg q]; exact gl_inl s3 s4
      · rw [if_neg h2]
        exact gd_wk s1 (gd_bnd (gd_S ok (k + 1) _ s2) (fun p' t _ _ a2 _ a4 => gl_cmp ok (k + 1) a2 a4))
end LGE

/-! the class's reader of lights: clauses, the whole -/
section LRW
variable {n : Nat} {tb : Nat → Nat} {o : Nat}
def clF (B : Nat) (c : Cl) : List Tk := if c.1 = [] then c.2 ++ [(13, 0)] else c.1 ++ ((12, B + c.1.length + 1 + c.2.length) :: (c.2 ++ [(13, 0)]))
def flA (cs : List Cl) : List Tk := cs.foldl (fun T c => T ++ clF T.length c) []
theorem flA_app (cs : List Cl) (c : Cl) : flA (cs ++ [c]) = flA cs ++ clF (flA cs).length c := by unfold flA; rw [List.foldl_append]; rfl
def wfC (c : Cl) : Prop := vS c.2 ∧ (c.1 = [] ∨ vC c.1)
theorem vC_ne {c : List Tk} (h : vC c) : ¬ c = [] := by
  rintro rfl
  have := h.2.1
  simp [opn, bnn] at this
theorem lpO_pre {cs : Nat → Option Nat} {A : Nat → Rs} (t : List Tk) : ∀ (f p : Nat) (ts : List Tk), lpO n tb cs A f p (t ++ ts) = bnd (lpO n tb cs A f p ts) (fun p' x => .inr (p', t ++ x))
  | 0, p, ts => rfl
  | f + 1, p, ts => by
    cases e : cs (chA n tb (sk n tb p)) with
    | none => rw [lpO_stop e, lpO_stop e]; rfl
    | some k =>
      rw [lpO_go e, lpO_go e, bnd_bnd]
      congr 1
      funext p' u
      rw [List.append_assoc, lpO_pre t f p' (ts ++ (u ++ [(k, 0)]))]
theorem cdT_pre (U : Nat → Rs) (r : Rs) (t : List Tk) : cdT n tb U (bnd r (fun p x => .inr (p, t ++ x))) = bnd (cdT n tb U r) (fun p x => .inr (p, t ++ x)) := by
  unfold cdT
  cases r with
  | inl e => rfl
  | inr x =>
    obtain ⟨p, x⟩ := x
    rw [bnd_r, bnd_r, bnd_r, lpO_pre]
    cases lpO n tb csA U n p x with
    | inl e => rfl
    | inr y =>
      obtain ⟨p', y⟩ := y
      rw [bnd_r, bnd_r, bnd_r, lpO_pre]
def gC (n : Nat) (p : Nat) (r : Nat ⊕ (Nat × Cl)) : Prop := (∀ e, r = .inl e → p ≤ e ∧ e ≤ n) ∧ ∀ p' c, r = .inr (p', c) → p < p' ∧ p' ≤ n ∧ (∀ B, p + (clF B c).length ≤ p') ∧ wfC c
theorem clF_len (B : Nat) (c : Cl) : (clF B c).length ≤ c.1.length + c.2.length + (if c.1 = [] then 1 else 2) := by
  unfold clF
  by_cases h : c.1 = []
  · rw [if_pos h, if_pos h, h]; simp
  · rw [if_neg h, if_neg h]; simp; omega
theorem gC_q (ok : TOk n tb) {p q : Nat} {r : Rs} (hpq : p + 2 ≤ q) (hr : gd n vC q r) : gC n p (qSm n tb r) := by
  unfold qSm
  cases r with
  | inl e => exact ⟨fun e' he => (by cases he; have := hr.1 e rfl; omega), fun p' c he => (by cases he)⟩
  | inr x =>
    obtain ⟨p1, c1⟩ := x
    obtain ⟨a1, a2, a3, a4⟩ := hr.2 p1 c1 rfl
    have s1 := sk_ge (n := n) (tb := tb) a2
    have s2 := sk_le (n := n) (tb := tb) a2
    simp only
    by_cases h : chA n tb (sk n tb p1) = 63
    · rw [if_pos h]
      have hlt := chA_lt h (by omega)
      obtain ⟨g1, g2⟩ := gd_S ok 6 (sk n tb p1 + 1) (by omega)
      cases e : sS n tb 6 (sk n tb p1 + 1) with
      | inl e' => exact ⟨fun e'' he => (by cases he; have := g1 e' e; omega), fun p' c he => (by cases he)⟩
      | inr y =>
        obtain ⟨p2, t⟩ := y
        obtain ⟨b1, b2, b3, b4⟩ := g2 p2 t e
        refine ⟨fun e'' he => (by cases he), fun p' c he => ?_⟩
        cases he
        refine ⟨by omega, b2, fun B => ?_, b4, Or.inr a4⟩
        have := clF_len B (c1, t)
        rw [if_neg (show ¬ (c1, t).1 = [] from vC_ne a4)] at this
        simp only at this
        omega
    · rw [if_neg h]
      exact ⟨fun e'' he => (by cases he; omega), fun p' c he => (by cases he)⟩
theorem gC_cl (ok : TOk n tb) {p : Nat} (hp : p ≤ n) : gC n p (pCla n tb p) := by
  have s1 := sk_ge (tb := tb) hp
  have s2 := sk_le (tb := tb) hp
  unfold pCla
  by_cases h1 : chA n tb (sk n tb p) = 121
  · rw [if_pos h1]
    have l1 := chA_lt h1 (by omega)
    have s3 := sk_ge (n := n) (tb := tb) (p := sk n tb p + 1) (by omega)
    have s4 := sk_le (n := n) (tb := tb) (p := sk n tb p + 1) (by omega)
    by_cases h2 : chA n tb (sk n tb (sk n tb p + 1)) = 58
    · rw [if_pos h2]
      have l2 := chA_lt h2 (by omega)
      have s5 := sk_ge (n := n) (tb := tb) (p := sk n tb (sk n tb p + 1) + 1) (by omega)
      have s6 := sk_le (n := n) (tb := tb) (p := sk n tb (sk n tb p + 1) + 1) (by omega)
      by_cases h3 : chA n tb (sk n tb (sk n tb (sk n tb p + 1) + 1)) = 33 ∨ chA n tb (sk n tb (sk n tb (sk n tb p + 1) + 1)) = 40
      · rw [if_pos h3]
        exact gC_q ok (q := sk n tb (sk n tb (sk n tb p + 1) + 1)) (by omega) (gd_cd _ (fun q hq => gd_U ok 6 q hq) (gd_U ok 6 _ s6))
      · rw [if_neg h3]
        obtain ⟨g1, g2⟩ := gd_S ok 6 _ s6
        cases e : sS n tb 6 (sk n tb (sk n tb (sk n tb p + 1) + 1)) with
        | inl e' => exact ⟨fun e'' he => (by cases he; have := g1 e' e; omega), fun p' c he => (by cases he)⟩
        | inr y =>
          obtain ⟨p1, t⟩ := y
          obtain ⟨b1, b2, b3, b4⟩ := g2 p1 t e
          have s7 := sk_ge (n := n) (tb := tb) b2
          have s8 := sk_le (n := n) (tb := tb) b2
          simp only
          by_cases h4 : isS (chA n tb (sk n tb p1)) = true
          · rw [if_pos h4]
            refine gC_q ok (q := sk n tb (sk n tb (sk n tb p + 1) + 1)) (by omega) (gd_cd _ (fun q hq => gd_U ok 6 q hq) ?_)
            have gg : gd n vC (sk n tb (sk n tb (sk n tb p + 1) + 1)) (bnd (sS n tb 6 (sk n tb (sk n tb (sk n tb p + 1) + 1))) (cmP n tb 6)) := gd_bnd ⟨g1, g2⟩ (fun p' t _ _ a2 _ a4 => gl_cmp ok 6 a2 a4)
            rw [e, bnd_r] at gg
            exact gg
          · rw [if_neg h4]
            refine ⟨fun e'' he => (by cases he), fun p' c he => ?_⟩
            cases he
            refine ⟨by omega, s8, fun B => ?_, b4, Or.inl rfl⟩
            have := clF_len B ([], t)
            rw [if_pos rfl] at this
            simp only [List.length_nil] at this
            omega
    · rw [if_neg h2]
      exact ⟨fun e'' he => (by cases he; omega), fun p' c he => (by cases he)⟩
  · rw [if_neg h1]
    exact ⟨fun e'' he => (by cases he; omega), fun p' c he => (by cases he)⟩
theorem lead_c {o : Nat} (ho : isL o) {T1 R : List Tk} {hc : rx_Hp} (h : LTk o (T1 ++ (12, 0) :: R) hc) (hT : T1.length + 1 + R.length ≤ 160) : p_Li_leadToEnd o (zI (T1.length : Nat)) hc ∧ LTk o (T1 ++ (12, T1.length + R.length) :: R) (g_Li_leadToEnd o (zI (T1.length : Nat)) hc) ∧ Fr [(o, 2)] (ltA o) hc (g_Li_leadToEnd o (zI (T1.length : Nat)) hc) := by
  obtain ⟨h1, h2, h3⟩ := h
  have hl : (T1 ++ (12, 0) :: R).length = T1.length + 1 + R.length := by simp; omega
  rw [hl] at h2
  have c1 : ¬ zI (T1.length : Int) < 0 := by
    have z := zI_lt (a := (T1.length : Int)) (b := 0) (by omega) (by omega)
    rw [show zI 0 = (0 : Int32) from by decide] at z
    rw [z]; omega
  have c2 : ¬ hc.1 o 2 ≤ zI (T1.length : Int) := by rw [h2, zI_le (by omega) (by omega)]; omega
  unfold p_Li_leadToEnd g_Li_leadToEnd
  rw [if_neg c1, if_neg c2, h2, zI_cN (by omega)]
  refine ⟨fun _ _ => vp_N (by omega) (by omega), ⟨h1, ?_, fun i t ht => ?_⟩, Fr.rf.pa (by unfold ltA; simp)⟩
  · rw [pa_f, h2]; congr 2; simp; omega
  · by_cases q : i = T1.length
    · subst q
      rw [List.getElem?_append_right (Nat.le_refl _), Nat.sub_self] at ht
      have ht : (12, T1.length + R.length) = t := by simpa using ht
      subst ht
      have := h3 T1.length (12, 0) (by rw [List.getElem?_append_right (Nat.le_refl _), Nat.sub_self]; rfl)
      rw [pa_ne _ _ (by simp), pa_same]
      refine ⟨this.1, ?_⟩
      rw [show (1 : Int32) = zI ((1 : Nat) : Int) from by decide, zI_subN (by omega)]
      congr 2; omega
    · have : (T1 ++ (12, 0) :: R)[i]? = some t := by
        by_cases z : i < T1.length
        · rw [List.getElem?_append_left z] at ht ⊢; exact ht
        · rw [List.getElem?_append_right (by omega)] at ht ⊢
          rw [show i - T1.length = (i - T1.length - 1) + 1 by omega, List.getElem?_cons_succ] at ht ⊢
          exact ht
      have h4 := h3 i t this
      rw [pa_ne _ _ (by simp), pa_ne _ _ (by simp [q])]; exact h4
theorem rc_c {G : rx_Gh} {F : Int32 → rx_Hp → Prop} (ok : TOk n tb) (ho : isL o) {p : Nat} {T : List Tk} {hc : rx_Hp} (hp : p ≤ n) (hT : T.length + (n - p) ≤ 160) (T0 : AtC n tb p hc) (S0 : LTk o T hc) (Kl : ∀ e h', pCla n tb p = .inl e → AtC n tb e h' → Fr (ltF o) (ltA o) hc h' → F 0 h') (Kr : ∀ p' c h', pCla n tb p = .inr (p', c) → AtC n tb p' h' → LTk o (T ++ clF T.length c) h' → Fr (ltF o) (ltA o) hc h' → F 1 h') : Ev wC G 50 q_LR_readClause [.ref 15] hc (rI F) := by
  have s1 := sk_ge (tb := tb) hp
  have s2 := sk_le (tb := tb) hp
  refine w_LR_readClause ?_
  rw [show (121 : Int32) = zI ((121 : Nat) : Int) from by decide, show (58 : Int32) = zI ((58 : Nat) : Int) from by decide, show (63 : Int32) = zI ((63 : Nat) : Int) from by decide]
  unfold pCla at Kl Kr
  refine take_c ok hp (by omega) T0 (fun d1 h1 T1 f1 => ?_) (fun d1 h1 T1 f1 => ?_)
  case refine_2 =>
    rw [if_neg d1] at Kl
    exact ⟨fun _ => Kl _ h1 rfl T1 f1.lt1, fun z => absurd rfl z⟩
  rw [if_pos d1] at Kl Kr
  have l1 := chA_lt d1 (by omega)
  have s3 := sk_ge (n := n) (tb := tb) (p := sk n tb p + 1) (by omega)
  have s4 := sk_le (n := n) (tb := tb) (p := sk n tb p + 1) (by omega)
  refine ⟨fun z => absurd z (by decide), fun _ => ?_⟩
  refine take_c ok (by omega) (by omega) T1 (fun d2 h3 T3 f3 => ?_) (fun d2 h3 T3 f3 => ?_)
  case refine_2 =>
    rw [if_neg d2] at Kl
    exact ⟨fun _ => Kl _ h3 rfl T3 (f1.lt1.tr f3.lt1), fun z => absurd rfl z⟩
  rw [if_pos d2] at Kl Kr
  have l2 := chA_lt d2 (by omega)
  have s5 := sk_ge (n := n) (tb := tb) (p := sk n tb (sk n tb p + 1) + 1) (by omega)
  have s6 := sk_le (n := n) (tb := tb) (p := sk n tb (sk n tb p + 1) + 1) (by omega)
  have cl := chA_le ok (sk n tb (sk n tb (sk n tb p + 1) + 1))
  refine ⟨fun z => absurd z (by decide), fun _ => look_c ok (by omega) T3 (fun h5 T5 f5 => ?_)⟩
  have fr5 : Fr (ltF o) (ltA o) hc h5 := f1.lt1.tr (f3.lt1.tr f5.lt1)
  have S5 := ((S0.fr1 ho f1).fr1 ho f3).fr1 ho f5
  obtain ⟨q, hq⟩ : ∃ q, sk n tb (sk n tb (sk n tb p + 1) + 1) = q := ⟨_, rfl⟩
  rw [hq] at Kl Kr T5 s5 s6 cl ⊢
  have q33 : zI (chA n tb q : Nat) = 33 ↔ chA n tb q = 33 := by rw [show (33 : Int32) = zI 33 from by decide, zI_eq (by omega) (by omega)]; omega
  have q40 : zI (chA n tb q : Nat) = 40 ↔ chA n tb q = 40 := by rw [show (40 : Int32) = zI 40 from by decide, zI_eq (by omega) (by omega)]; omega
  -- behind a condition
  have tail : ∀ (p1 : Nat) (c : List Tk) (h7 : rx_Hp), q < p1 → p1 ≤ n → q + c.length ≤ p1 → ¬ c = [] → AtC n tb p1 h7 → LTk o (T ++ c) h7 → Fr (ltF o) (ltA o) hc h7 → (∀ e h', qSm n tb (.inr (p1, c)) = .inl e → AtC n tb e h' → Fr (ltF o) (ltA o) hc h' → F 0 h') → (∀ p' c' h', qSm n tb (.inr (p1, c)) = .inr (p', c') → AtC n tb p' h' → LTk o (T ++ clF T.length c') h' → Fr (ltF o) (ltA o) hc h' → F 1 h') → Ev wC G 2 q_Ta_take [.ref 1, .int (zI ((63 : Nat) : Int))] h7 (rI fun r10 h9 => (r10 = 0 → F 0 h9) ∧ (¬ r10 = 0 → isL h9.2.2 ∧ (p_Li_add h9.2.2 (zI ((63 : Nat) : Int)) 0 h9 ∧ (Ev wC G 23 q_LR_readSum [.ref 15, .int 0] (g_Li_add h9.2.2 (zI ((63 : Nat) : Int)) 0 h9) (rI fun r12 h11 => (r12 = 0 → F 0 h11) ∧ (¬ r12 = 0 → isL h11.2.2 ∧ (p_Li_add h11.2.2 59 0 h11 ∧ (isL ((g_Li_add h11.2.2 59 0 h11).2.2) ∧ (p_Li_leadToEnd ((g_Li_add h11.2.2 59 0 h11).2.2) (h9.1 h9.2.2 2) (g_Li_add h11.2.2 59 0 h11) ∧ (F 1 (g_Li_leadToEnd ((g_Li_add h11.2.2 59 0 h11).2.2) (h9.1 h9.2.2 2) (g_Li_add h11.2.2 59 0 h11)))))))))))) := by
    intro p1 c h7 a1 a2 a3 hc0 T7 S7 fr7 Kl Kr
    have s7 := sk_ge (n := n) (tb := tb) a2
    have s8 := sk_le (n := n) (tb := tb) a2
    unfold qSm at Kl Kr
    simp only at Kl Kr
    refine take_c ok a2 (by omega) T7 (fun d h9 T9 f9 => ?_) (fun d h9 T9 f9 => ?_)
    · rw [if_pos d] at Kl Kr
      have l3 := chA_lt d (by omega)
      have S9 := S7.fr1 ho f9
      refine ⟨fun z => absurd z (by decide), fun _ => ?_⟩
      rw [S9.1]
      have lT : (T ++ c).length < 160 := by rw [List.length_append]; omega
      obtain ⟨b1, b2', b3⟩ := add_c ho S9 lT 12 0
      refine ⟨ho, b1, ?_⟩
      have fr10 : Fr (ltF o) (ltA o) hc (g_Li_add o (zI ((63 : Nat) : Int)) 0 h9) := fr7.tr (f9.lt1.tr b3.lt2)
      refine sum_c6 ok ho _ (sk n tb p1 + 1) (T ++ c ++ [(12, 0)]) _ (by omega) (by simp only [List.length_append, List.length_singleton]; omega) (T9.lt ho b3) b2' (fun e h11 he T11 f11 => ?_) (fun p2 t h11 he T11 S11 f11 => ?_)
      · rw [he] at Kl
        exact ⟨fun _ => Kl e h11 rfl T11 (fr10.tr f11), fun z => absurd rfl z⟩
      · rw [he] at Kr
        simp only at Kr
        obtain ⟨-, g2⟩ := gd_S ok 6 (sk n tb p1 + 1) (by omega)
        obtain ⟨e1, e2, e3, e4⟩ := g2 p2 t he
        refine ⟨fun z => absurd z (by decide), fun _ => ?_⟩
        rw [S11.1]
        obtain ⟨d1', d2', d3'⟩ := add_c ho S11 (by simp only [List.length_append, List.length_singleton]; omega) 13 0
        have d1' : p_Li_add o 59 0 h11 := d1'
        have d2' : LTk o (T ++ c ++ [(12, 0)] ++ t ++ [(13, 0)]) (g_Li_add o 59 0 h11) := d2'
        have d3' : Fr [(o, 2)] (ltA o) h11 (g_Li_add o 59 0 h11) := d3'
        rw [d2'.1]
        have e9 : h9.1 o 2 = zI ((T ++ c).length : Nat) := S9.2.1
        rw [e9]
        have eL : T ++ c ++ [(12, 0)] ++ t ++ [(13, 0)] = (T ++ c) ++ (12, 0) :: (t ++ [(13, 0)]) := by simp
        rw [eL] at d2'
        obtain ⟨k1, k2, k3⟩ := lead_c ho d2' (by simp only [List.length_append, List.length_singleton]; omega)
        refine ⟨ho, d1', ho, k1, ?_⟩
        refine Kr p2 (c, t) _ rfl ((T11.lt ho d3').lt ho k3) ?_ (fr10.tr (f11.tr (d3'.lt2.tr k3.lt2)))
        have ecl : T ++ clF T.length (c, t) = (T ++ c) ++ (12, (T ++ c).length + (t ++ [(13, 0)]).length) :: (t ++ [(13, 0)]) := by
          unfold clF
          rw [if_neg (show ¬ (c, t).1 = [] from hc0)]
          simp only [List.append_assoc, List.length_append, List.length_singleton]
          congr 3
          congr 1
          omega
        rw [ecl]; exact k2
    · rw [if_neg d] at Kl
      exact ⟨fun _ => Kl _ h9 rfl T9 (fr7.tr f9.lt1), fun z => absurd rfl z⟩
  by_cases h3 : chA n tb q = 33 ∨ chA n tb q = 40
  · have ej : ((if zI (chA n tb q : Nat) = 33 then 0 else ((if zI (chA n tb q : Nat) = 40 then 0 else 1) : Int32)) : Int32) = 0 := by
      rcases h3 with h | h
      · rw [if_pos (q33.mpr h)]
      · rw [if_neg (fun z => by have := q33.mp z; omega), if_pos (q40.mpr h)]
    rw [ej]
    rw [if_pos h3] at Kl Kr
    refine ⟨fun _ => ?_, fun z => absurd rfl z⟩
    refine cond_cc ok ho _ q T h5 s6 (by omega) T5 S5 (fun e h7 he T7 f7 => ?_) (fun p1 c h7 he T7 S7 f7 => ?_)
    · rw [he] at Kl
      exact ⟨fun _ => Kl e h7 rfl T7 (fr5.tr f7), fun z => absurd rfl z⟩
    · have g := gd_cd (n := n) (tb := tb) _ (fun q hq => gd_U ok 6 q hq) (gd_U ok 6 q s6)
      obtain ⟨a1, a2, a3, a4⟩ := g.2 p1 c he
      rw [he] at Kl Kr
      refine ⟨fun z => absurd z (by decide), fun _ => ?_⟩
      exact tail p1 c h7 a1 a2 a3 (vC_ne a4) T7 S7 (fr5.tr f7) Kl Kr
  · have ej : ((if zI (chA n tb q : Nat) = 33 then 0 else ((if zI (chA n tb q : Nat) = 40 then 0 else 1) : Int32)) : Int32) = 1 := by
      rw [if_neg (fun z => h3 (Or.inl (q33.mp z))), if_neg (fun z => h3 (Or.inr (q40.mp z)))]
    rw [ej]
    rw [if_neg h3] at Kl Kr
    refine ⟨fun z => absurd z (by decide), fun _ => ?_⟩
    refine sum_c6 ok ho _ q T h5 s6 (by omega) T5 S5 (fun e h7 he T7 f7 => ?_) (fun p1 t h7 he T7 S7 f7 => ?_)
    · rw [he] at Kl
      exact ⟨fun _ => Kl e h7 rfl T7 (fr5.tr f7), fun z => absurd rfl z⟩
    · obtain ⟨-, g2⟩ := gd_S ok 6 q s6
      obtain ⟨a1, a2, a3, a4⟩ := g2 p1 t he
      have s7 := sk_ge (n := n) (tb := tb) a2
      have s8 := sk_le (n := n) (tb := tb) a2
      have cl2 := chA_le ok (sk n tb p1)
      rw [he] at Kl Kr
      simp only at Kl Kr
      refine ⟨fun z => absurd z (by decide), fun _ => look_c ok a2 T7 (fun h9 T9 f9 => ?_)⟩
      rw [isC_z cl2]
      have S9 := S7.fr1 ho f9
      have fr9 : Fr (ltF o) (ltA o) hc h9 := fr5.tr (f7.tr f9.lt1)
      refine ⟨fun z => ?_, fun z => ?_⟩
      · have z := (b2_0 _).mp z
        rw [if_neg (by rw [z]; decide)] at Kr
        rw [S9.1]
        obtain ⟨b1, b2', b3⟩ := add_c ho S9 (by rw [List.length_append]; omega) 13 0
        refine ⟨ho, b1, Kr _ _ _ rfl (T9.lt ho b3) ?_ (fr9.tr b3.lt2)⟩
        unfold clF
        rw [if_pos rfl, ← List.append_assoc]; exact b2'
      · have z := b2_t z
        rw [if_pos z] at Kl Kr
        have ec : cdT n tb (uU n tb 6) (cmP n tb 6 p1 t) = bnd (cdT n tb (uU n tb 6) (cmQ n tb 6 p1)) (fun p x => .inr (p, t ++ x)) := by rw [cmP_Q, cdT_pre]
        have es : cmQ n tb 6 (sk n tb p1) = cmQ n tb 6 p1 := by unfold cmQ; rw [sk_sk a2]
        have gv : gd n vC q (cdT n tb (uU n tb 6) (cmP n tb 6 p1 t)) := by
          refine gd_cd _ (fun q hq => gd_U ok 6 q hq) ?_
          have gg : gd n vC q (bnd (sS n tb 6 q) (cmP n tb 6)) := gd_bnd (gd_S ok 6 q s6) (fun p' t _ _ a2 _ a4 => gl_cmp ok 6 a2 a4)
          rw [he, bnd_r] at gg
          exact gg
        refine cond_c1 ok ho _ (sk n tb p1) (T ++ t) h9 s8 (by rw [List.length_append]; omega) T9 S9 (fun e h11 he2 T11 f11 => ?_) (fun p2 c h11 he2 T11 S11 f11 => ?_)
        · simp only at he2
          rw [es] at he2
          rw [ec, he2, bnd_l] at Kl
          exact ⟨fun _ => Kl e h11 rfl T11 (fr9.tr f11), fun z => absurd rfl z⟩
        · simp only at he2
          rw [es] at he2
          rw [ec, he2, bnd_r] at Kl Kr gv
          obtain ⟨b1, b2', b3, b4⟩ := gv.2 _ _ rfl
          refine ⟨fun z => absurd z (by decide), fun _ => ?_⟩
          refine tail p2 (t ++ c) h11 b1 b2' b3 (vC_ne b4) T11 ?_ (fr9.tr f11) Kl Kr
          rw [← List.append_assoc]; exact S11
theorem rl_c {G : rx_Gh} {F : Int32 → rx_Hp → Prop} (ok : TOk n tb) (ho : isL o) : ∀ (m p i : Nat) (cs : List Cl) (f : Nat) (hx : rx_Hp), p + m = n → 2 * i ≤ p → n + 1 - p ≤ f → (flA cs).length + (n - p) ≤ 160 → AtC n tb p hx → LTk o (flA cs) hx → (∀ e h', pLi n tb f p cs = .inl e → Fr (ltF o) (ltA o) hx h' → F (zI e) h') → (∀ L h', pLi n tb f p cs = .inr L → LTk o (flA L) h' → Fr (ltF o) (ltA o) hx h' → F (-1) h') → Rn wC G 51 q_LR_read 27 [some (.ref 15), none, some (.int (zI i))] [] hx (rI F) := by
  have o1 := ok.1
  intro m
  induction m using Nat.strongRecOn with
  | ind m ih =>
    intro p i cs f hx hpm hi hf hT T0 S0 Kl Kr
    have hp : p ≤ n := by omega
    have hcn : ¬ 160 ≤ zI (i : Int) := by rw [show (160 : Int32) = zI 160 from by decide, zI_le (by omega) (by omega)]; omega
    obtain ⟨f', rfl⟩ : ∃ f', f = f' + 1 := ⟨f - 1, by omega⟩
    have eP : pLi n tb (f' + 1) p cs = (match pCla n tb p with | .inl e => .inl e | .inr (p', c) => if chA n tb (sk n tb p') = 0 then .inr (cs ++ [c]) else if chA n tb (sk n tb p') = 59 then pLi n tb f' (sk n tb p' + 1) (cs ++ [c]) else .inl (sk n tb p')) := by
      conv => lhs; unfold pLi
      cases pCla n tb p <;> rfl
    rw [eP] at Kl Kr
    refine w_LR_read_27 _ ho ⟨fun c => absurd c hcn, fun _ => rc_c ok ho hp hT T0 S0 (fun e h1 he T1 f1 => ?_) (fun p' c h1 he T1 S1 f1 => ?_)⟩
    · rw [he] at Kl
      refine ⟨fun _ => ?_, fun z => absurd rfl z⟩
      rw [T1.2]; exact Kl e h1 rfl f1
    · obtain ⟨-, g2⟩ := gC_cl ok hp
      obtain ⟨a1, a2, a3, a4⟩ := g2 p' c he
      have a3 := a3 (flA cs).length
      rw [he] at Kl Kr
      simp only at Kl Kr
      rw [← flA_app] at S1
      have cl := chA_le ok (sk n tb p')
      have s1 := sk_ge (n := n) (tb := tb) a2
      have s2 := sk_le (n := n) (tb := tb) a2
      refine ⟨fun z => absurd z (by decide), fun _ => look_c ok a2 T1 (fun h3 T3 f3 => ?_)⟩
      have S3 := S1.fr1 ho f3
      have fr3 : Fr (ltF o) (ltA o) hx h3 := f1.tr f3.lt1
      rw [z0_iff (by omega)]
      refine ⟨fun z => ?_, fun z => ?_⟩
      · rw [if_pos z] at Kr
        exact Kr _ h3 rfl S3 fr3
      · rw [if_neg z] at Kl Kr
        rw [show (59 : Int32) = zI ((59 : Nat) : Int) from by decide]
        have ss := sk_sk (tb := tb) a2
        refine take_c ok s2 (by omega) T3 (fun d h5 T5 f5 => ?_) (fun d h5 T5 f5 => ?_)
        · rw [ss] at d T5
          rw [if_pos d] at Kl Kr
          have hlt := chA_lt d (by omega)
          refine ⟨fun z => absurd z (by decide), fun _ => ?_⟩
          rw [show zI (i : Int) + 1 = zI ((i + 1 : Nat) : Int) from zI_add i 1]
          refine ih (n - (sk n tb p' + 1)) (by omega) (sk n tb p' + 1) (i + 1) (cs ++ [c]) f' h5 (by omega) (by omega) (by omega) ?_ T5 (S3.fr1 ho f5) (fun e h' he' f'' => Kl e h' he' (fr3.tr (f5.lt1.tr f''))) (fun L h' he' S' f'' => Kr L h' he' S' (fr3.tr (f5.lt1.tr f'')))
          rw [flA_app, List.length_append]; omega
        · rw [ss] at d T5
          rw [if_neg d] at Kl
          refine ⟨fun _ => ?_, fun z => absurd rfl z⟩
          rw [T5.2]; exact Kl _ h5 rfl (fr3.tr f5.lt1)
theorem read_lc {G : rx_Gh} {F : Int32 → rx_Hp → Prop} (ok : TOk n tb) (ho : isL o) {hc : rx_Hp} (T : TC n tb hc) (Kl : ∀ e h', pLight n tb = .inl e → Fr (ltF o) (ltA o) (rx_pl hc o) h' → F (zI e) h') (Kr : ∀ L h', pLight n tb = .inr L → LTk o (flA L) h' → Fr (ltF o) (ltA o) (rx_pl hc o) h' → F (-1) h') : Ev wC G 51 q_LR_read [.ref 15, .ref o] hc (rI F) := by
  have o1 := ok.1
  have og := isL_ge ho
  refine w_LR_read ho ?_
  have fr : Fr (ltF o) (ltA o) (rx_pl hc o) (rx_pf (rx_pf (rx_pl hc o) o 2 0) 1 2 0) := (Fr.rf.pf (by unfold ltF; simp)).pf (by unfold ltF; simp)
  refine rl_c ok ho n 0 0 [] (n + 1) _ (by omega) (by omega) (by omega) (by show 0 + (n - 0) ≤ 160; omega) ⟨⟨?_, fun i hi => T.2 i hi⟩, by rw [pf_same]; decide⟩ ⟨rfl, ?_, fun i t ht => ?_⟩ (fun e h' he f' => Kl e h' he (fr.tr f')) (fun L h' he S f' => Kr L h' he S (fr.tr f'))
  · rw [pf_ne _ _ (by decide), pf_ne _ _ (by simp)]; exact T.1
  · rw [pf_ne _ _ (by simp <;> omega), pf_same]; decide
  · have ht : ([] : List Tk)[i]? = some t := ht
    simp at ht
end LRW

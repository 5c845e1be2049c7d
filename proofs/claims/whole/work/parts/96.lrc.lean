/-! the class's reader of lights: units, conditions -/
section LRU
variable {n : Nat} {tb : Nat → Nat} {o : Nat}
def cmQ (n : Nat) (tb : Nat → Nat) (k : Nat) (p : Nat) : Rs := if isS (chA n tb (sk n tb p)) = true then bnd (sS n tb k (sk n tb p + 1)) (fun p' t' => .inr (p', t' ++ [(cmK (chA n tb (sk n tb p)), 0)])) else .inl (sk n tb p)
theorem cmP_Q (k p : Nat) (t : List Tk) : cmP n tb k p t = bnd (cmQ n tb k p) (fun p' t' => .inr (p', t ++ t')) := by
  unfold cmP cmQ
  by_cases h : isS (chA n tb (sk n tb p)) = true
  · rw [if_pos h, if_pos h, bnd_bnd]
    congr 1
  · rw [if_neg h, if_neg h]; rfl
theorem gd_cmQ (ok : TOk n tb) (k : Nat) {p : Nat} (hp : p ≤ n) : gd n (fun _ => True) p (cmQ n tb k p) := by
  have s1 := sk_ge (tb := tb) hp
  have s2 := sk_le (tb := tb) hp
  unfold cmQ
  by_cases h : isS (chA n tb (sk n tb p)) = true
  · rw [if_pos h]
    have hlt : sk n tb p < n := by rcases isS_0 h with h | h | h <;> exact chA_lt h (by omega)
    obtain ⟨a1, a2⟩ := gd_S ok k (sk n tb p + 1) (by omega)
    cases r : sS n tb k (sk n tb p + 1) with
    | inl e => exact ⟨fun e' he => (by cases he; have := a1 e r; omega), fun p' t he => by cases he⟩
    | inr x =>
      obtain ⟨p', t'⟩ := x
      obtain ⟨b1, b2, b3, b4⟩ := a2 p' t' r
      rw [bnd_r]
      refine ⟨fun e he => (by cases he), fun q t he => ?_⟩
      cases he
      refine ⟨by omega, b2, ?_, trivial⟩
      rw [List.length_append, List.length_singleton]; omega
  · rw [if_neg h]
    exact ⟨fun e he => (by cases he; omega), fun p' t he => by cases he⟩
theorem isC_z {c : Nat} (hc : c ≤ 255) : f_LR_isComparison (zI c) = b2 (isS c) := by
  unfold f_LR_isComparison isS
  have q1 : zI (c : Int) = 61 ↔ c = 61 := by rw [show (61 : Int32) = zI 61 from by decide, zI_eq (by omega) (by omega)]; omega
  have q2 : zI (c : Int) = 60 ↔ c = 60 := by rw [show (60 : Int32) = zI 60 from by decide, zI_eq (by omega) (by omega)]; omega
  have q3 : zI (c : Int) = 62 ↔ c = 62 := by rw [show (62 : Int32) = zI 62 from by decide, zI_eq (by omega) (by omega)]; omega
  by_cases h1 : c = 61
  · rw [if_pos (q1.mpr h1), decide_eq_true h1]; rfl
  · rw [if_neg (mt q1.mp h1), decide_eq_false h1, Bool.false_or]
    by_cases h2 : c = 60
    · rw [if_pos (q2.mpr h2), decide_eq_true h2]; rfl
    · rw [if_neg (mt q2.mp h2), decide_eq_false h2, Bool.false_or]
      by_cases h3 : c = 62
      · rw [if_pos (q3.mpr h3), decide_eq_true h3]; rfl
      · rw [if_neg (mt q3.mp h3), decide_eq_false h3]; rfl
theorem cm_sg {c : Nat} (h : isS c = true) : sgC (cmK c) = c := by rcases isS_0 h with rfl | rfl | rfl <;> rfl
/-- a comparison, from the look at its sign on -/
theorem cmp_c {G : rx_Gh} {F : Int32 → rx_Hp → Prop} (ok : TOk n tb) (ho : isL o) {k : Nat} (hS : CtC n tb o G (2 * k + 11) q_LR_readSum [.ref 15, .int (zI ((6 - k : Nat) : Int))] (sS n tb k)) {p : Nat} {T : List Tk} {hc : rx_Hp} (hp : p ≤ n) (hT : T.length + (n - p) ≤ 160) (T0 : AtC n tb p hc) (S0 : LTk o T hc) (Kl : ∀ e h', cmQ n tb k p = .inl e → AtC n tb e h' → Fr (ltF o) (ltA o) hc h' → F 0 h') (Kr : ∀ p' t h', cmQ n tb k p = .inr (p', t) → AtC n tb p' h' → LTk o (T ++ t) h' → Fr (ltF o) (ltA o) hc h' → F 1 h') : Ev wC G 1 q_Ta_look [.ref 1] hc (rI fun r16 h15 => ((f_LR_isComparison r16) = 0 → F 0 h15) ∧ (¬ (f_LR_isComparison r16) = 0 → Ev wC G (2 * k + 11) q_LR_readSum [.ref 15, .int (zI ((6 - k : Nat) : Int))] (rx_pf h15 1 2 ((h15.1 1 2) + 1)) (rI fun r18 h17 => (r18 = 0 → F 0 h17) ∧ (¬ r18 = 0 → isL h17.2.2 ∧ (p_Li_add h17.2.2 r16 0 h17 ∧ (F 1 (g_Li_add h17.2.2 r16 0 h17))))))) := by
  have s1 := sk_ge (tb := tb) hp
  have s2 := sk_le (tb := tb) hp
  have cl := chA_le ok (sk n tb p)
  refine look_c ok hp T0 (fun h1 T1 f1 => ?_)
  rw [isC_z cl]
  unfold cmQ at Kl Kr
  refine ⟨fun c => ?_, fun c => ?_⟩
  · have c := (b2_0 _).mp c
    rw [if_neg (by rw [c]; decide)] at Kl
    exact Kl _ h1 rfl T1 f1.lt1
  · have c := b2_t c
    rw [if_pos c] at Kl Kr
    have hlt : sk n tb p < n := by rcases isS_0 c with h | h | h <;> exact chA_lt h (by omega)
    have S1 := S0.fr1 ho f1
    have T2 : AtC n tb (sk n tb p + 1) (rx_pf h1 1 2 (h1.1 1 2 + 1)) := T1.to (by rw [T1.2]; exact zI_add _ 1)
    have f2 : Fr [(1, 2)] [] h1 (rx_pf h1 1 2 (h1.1 1 2 + 1)) := Fr.rf.pf (by decide)
    refine hS _ (sk n tb p + 1) T _ (by omega) (by omega) T2 (S1.fr1 ho f2) (fun e h3 he T3 f3 => ?_) (fun p' t h3 he T3 S3 f3 => ?_)
    · rw [he, bnd_l] at Kl
      exact ⟨fun _ => Kl e h3 rfl T3 (f1.lt1.tr (f2.lt1.tr f3)), fun z => absurd rfl z⟩
    · rw [he, bnd_r] at Kr
      obtain ⟨-, g2⟩ := gd_S ok k (sk n tb p + 1) (by omega)
      obtain ⟨a1, a2, a3, a4⟩ := g2 p' t he
      refine ⟨fun z => absurd z (by decide), fun _ => ?_⟩
      rw [S3.1]
      obtain ⟨b1, b2', b3⟩ := add_c ho S3 (by rw [List.length_append]; omega) (cmK (chA n tb (sk n tb p))) 0
      rw [cm_sg c] at b1 b2' b3
      refine ⟨ho, b1, Kr p' _ _ rfl (T3.lt ho b3) ?_ (f1.lt1.tr (f2.lt1.tr (f3.tr b3.lt2)))⟩
      rw [← List.append_assoc]; exact b2'
theorem un1_c {G : rx_Gh} (ok : TOk n tb) (ho : isL o) {k : Nat} (hS : CtC n tb o G (2 * k + 11) q_LR_readSum [.ref 15, .int (zI ((6 - k : Nat) : Int))] (sS n tb k)) : CtC n tb o G (2 * k + 30) q_LR_readUnit [.ref 15, .int (zI ((6 - k : Nat) : Int)), .int 1] (cmQ n tb k) := by
  intro F p T hc hp hT T0 S0 Kl Kr
  have s1 := sk_ge (tb := tb) hp
  have s2 := sk_le (tb := tb) hp
  refine w_LR_readUnit _ _ (look_c ok hp T0 (fun h1 T1 f1 => ⟨fun z => absurd z (by decide), fun _ => ?_⟩))
  have eq : cmQ n tb k (sk n tb p) = cmQ n tb k p := by unfold cmQ; rw [sk_sk hp]
  refine cmp_c ok ho hS s2 (by omega) T1 (S0.fr1 ho f1) (fun e h' he T' f' => Kl e h' (by rw [← eq]; exact he) T' (f1.lt1.tr f')) (fun p' t h' he T' S' f' => Kr p' t h' (by rw [← eq]; exact he) T' S' (f1.lt1.tr f'))
theorem un_c {G : rx_Gh} (ok : TOk n tb) (ho : isL o) {k : Nat} (hk : k ≤ 6) (hS : CtC n tb o G (2 * k + 11) q_LR_readSum [.ref 15, .int (zI ((6 - k : Nat) : Int))] (sS n tb k)) (hU : ∀ k', k = k' + 1 → CtC n tb o G (2 * k' + 30) q_LR_readUnit [.ref 15, .int (zI ((6 - k' : Nat) : Int)), .int 0] (uU n tb k')) (hC : ∀ k', k = k' + 1 → CtC n tb o G (2 * k' + 31) q_LR_readCondition [.ref 15, .int (zI ((6 - k' : Nat) : Int)), .int 0] (cC n tb k')) : CtC n tb o G (2 * k + 30) q_LR_readUnit [.ref 15, .int (zI ((6 - k : Nat) : Int)), .int 0] (uU n tb k) := by
  intro F p T hc hp hT T0 S0 Kl Kr
  have s1 := sk_ge (tb := tb) hp
  have s2 := sk_le (tb := tb) hp
  have cl := chA_le ok (sk n tb p)
  refine w_LR_readUnit _ _ (look_c ok hp T0 (fun h1 T1 f1 => ⟨fun _ => ?_, fun z => absurd rfl z⟩))
  have S1 := S0.fr1 ho f1
  have fr1 : Fr (ltF o) (ltA o) hc h1 := f1.lt1
  have T2 : AtC n tb (sk n tb p + 1) (rx_pf h1 1 2 (h1.1 1 2 + 1)) := T1.to (by rw [T1.2]; exact zI_add _ 1)
  have f2 : Fr [(1, 2)] [] h1 (rx_pf h1 1 2 (h1.1 1 2 + 1)) := Fr.rf.pf (by decide)
  have S2 := S1.fr1 ho f2
  have q33 : zI (chA n tb (sk n tb p) : Nat) = 33 ↔ chA n tb (sk n tb p) = 33 := by rw [show (33 : Int32) = zI 33 from by decide, zI_eq (by omega) (by omega)]; omega
  have q40 : zI (chA n tb (sk n tb p) : Nat) = 40 ↔ chA n tb (sk n tb p) = 40 := by rw [show (40 : Int32) = zI 40 from by decide, zI_eq (by omega) (by omega)]; omega
  rw [z6 hk]
  -- deeper than may be
  have deep : ¬ 1 ≤ k → (chA n tb (sk n tb p) = 33 ∨ chA n tb (sk n tb p) = 40) → F 0 h1 := by
    intro h0 hc2
    have hk0 : k = 0 := by omega
    subst hk0
    refine Kl (sk n tb p) h1 ?_ T1 fr1
    unfold uU; rw [if_pos hc2]
  refine ⟨fun c => ⟨fun d => ⟨fun c2 => ?_, fun _ => ?_⟩, fun d => deep d (Or.inl (q33.mp c))⟩, fun c => ⟨fun c2 => ⟨fun d => ?_, fun d => deep d (Or.inr (q40.mp c2))⟩, fun c2 => ?_⟩⟩
  · have := q33.mp c; have := q40.mp c2; omega
  · have c := q33.mp c
    have hlt := chA_lt c (by omega)
    obtain ⟨k', rfl⟩ : ∃ k', k = k' + 1 := ⟨k - 1, by omega⟩
    have eU : uU n tb (k' + 1) p = bnd (uU n tb k' (sk n tb p + 1)) (fun p' t => .inr (p', t ++ [(9, 0)])) := by
      conv => lhs; unfold uU
      rw [if_pos c]
    rw [eU] at Kl Kr
    rw [z6s (by omega), show 2 * (k' + 1) + 28 = 2 * k' + 30 by omega]
    refine hU k' rfl _ (sk n tb p + 1) T _ (by omega) (by omega) T2 S2 (fun e h7 he T7 f7 => ?_) (fun p' t h7 he T7 S7 f7 => ?_)
    · rw [he, bnd_l] at Kl
      exact ⟨fun _ => Kl e h7 rfl T7 (fr1.tr (f2.lt1.tr f7)), fun z => absurd rfl z⟩
    · rw [he, bnd_r] at Kr
      obtain ⟨-, g2⟩ := gd_U ok k' (sk n tb p + 1) (by omega)
      obtain ⟨a1, a2, a3, a4⟩ := g2 p' t he
      refine ⟨fun z => absurd z (by decide), fun _ => ?_⟩
      rw [S7.1]
      obtain ⟨b1, b2', b3⟩ := add_c ho S7 (by rw [List.length_append]; omega) 9 0
      refine ⟨ho, b1, Kr p' _ _ rfl (T7.lt ho b3) ?_ (fr1.tr (f2.lt1.tr (f7.tr b3.lt2)))⟩
      rw [← List.append_assoc]; exact b2'
  · have c2 := q40.mp c2
    have hlt := chA_lt c2 (by omega)
    obtain ⟨k', rfl⟩ : ∃ k', k = k' + 1 := ⟨k - 1, by omega⟩
    have eU : uU n tb (k' + 1) p = bnd (cC n tb k' (sk n tb p + 1)) (fun p' t => if chA n tb (sk n tb p') = 41 then .inr (sk n tb p' + 1, t) else .inl (sk n tb p')) := by
      conv => lhs; unfold uU
      rw [if_neg (by omega), if_pos c2]; rfl
    rw [eU] at Kl Kr
    rw [z6s (by omega), show 2 * (k' + 1) + 29 = 2 * k' + 31 by omega]
    refine hC k' rfl _ (sk n tb p + 1) T _ (by omega) (by omega) T2 S2 (fun e h7 he T7 f7 => ?_) (fun p' t h7 he T7 S7 f7 => ?_)
    · rw [he, bnd_l] at Kl
      exact ⟨fun _ => Kl e h7 rfl T7 (fr1.tr (f2.lt1.tr f7)), fun z => absurd rfl z⟩
    · rw [he, bnd_r] at Kl Kr
      have g := gd_cd (n := n) (tb := tb) _ (fun q hq => gd_U ok k' q hq) (gd_U ok k' (sk n tb p + 1) (by omega))
      obtain ⟨a1, a2, a3, a4⟩ := g.2 p' t he
      refine ⟨fun z => absurd z (by decide), fun _ => ?_⟩
      rw [show (41 : Int32) = zI ((41 : Nat) : Int) from by decide]
      refine take_c ok a2 (by omega) T7 (fun d h9 T9 f9 => ?_) (fun d h9 T9 f9 => ?_)
      · rw [if_pos d] at Kr
        exact Kr _ _ h9 rfl T9 (S7.fr1 ho f9) (fr1.tr (f2.lt1.tr (f7.tr f9.lt1)))
      · rw [if_neg d] at Kl
        exact Kl _ h9 rfl T9 (fr1.tr (f2.lt1.tr (f7.tr f9.lt1)))
  · have hn : ¬ (chA n tb (sk n tb p) = 33 ∨ chA n tb (sk n tb p) = 40) := by
      rintro (h | h)
      · exact c (q33.mpr h)
      · exact c2 (q40.mpr h)
    have eU : uU n tb k p = bnd (sS n tb k (sk n tb p)) (fun p' t => bnd (cmQ n tb k p') (fun p'' t' => .inr (p'', t ++ t'))) := by
      have : uU n tb k p = bnd (sS n tb k (sk n tb p)) (cmP n tb k) := by
        cases k with
        | zero => unfold uU; rw [if_neg hn]
        | succ k => conv => lhs; unfold uU
                    rw [if_neg (fun z => hn (Or.inl z)), if_neg (fun z => hn (Or.inr z))]
      rw [this]
      congr 1
      funext p' t
      exact cmP_Q k p' t
    rw [eU] at Kl Kr
    refine hS _ (sk n tb p) T h1 s2 (by omega) T1 S1 (fun e h7 he T7 f7 => ?_) (fun p' t h7 he T7 S7 f7 => ?_)
    · rw [he, bnd_l] at Kl
      exact ⟨fun _ => Kl e h7 rfl T7 (fr1.tr f7), fun z => absurd rfl z⟩
    · rw [he, bnd_r] at Kl Kr
      obtain ⟨-, g2⟩ := gd_S ok k (sk n tb p) s2
      obtain ⟨a1, a2, a3, a4⟩ := g2 p' t he
      refine ⟨fun z => absurd z (by decide), fun _ => ?_⟩
      refine cmp_c ok ho hS a2 (by rw [List.length_append]; omega) T7 S7 (fun e h' he' T' f' => Kl e h' (by rw [he']; rfl) T' (fr1.tr (f7.tr f'))) (fun p'' t' h' he' T' S' f' => Kr p'' _ h' (by rw [he']; rfl) T' ?_ (fr1.tr (f7.tr f')))
      rw [← List.append_assoc]; exact S'
theorem cd_c {G : rx_Gh} (ok : TOk n tb) (ho : isL o) {k : Nat} (hk : k ≤ 6) (hU : CtC n tb o G (2 * k + 30) q_LR_readUnit [.ref 15, .int (zI ((6 - k : Nat) : Int)), .int 0] (uU n tb k)) {a2 : Int32} {u1 : Nat → Rs} (h1U : CtC n tb o G (2 * k + 30) q_LR_readUnit [.ref 15, .int (zI ((6 - k : Nat) : Int)), .int a2] u1) (h1g : ∀ p, p ≤ n → gd n (fun _ => True) p (u1 p)) : CtC n tb o G (2 * k + 31) q_LR_readCondition [.ref 15, .int (zI ((6 - k : Nat) : Int)), .int a2] (fun p => cdT n tb (uU n tb k) (u1 p)) := by
  intro F p T hc hp hT T0 S0 Kl Kr
  have o1 := ok.1
  have lp : ∀ (m p i : Nat) (w PS ct : List Tk) (f1 f2 : Nat) (hx : rx_Hp), p + m = n → 2 * i ≤ p → n - p ≤ f1 → n - p ≤ f2 → (w = [] ∨ w = [(11, 0)]) → T.length + (PS ++ ct).length + w.length + (n - p) ≤ 160 → AtC n tb p hx → LTk o (T ++ (PS ++ ct)) hx → (∀ e h', rFl (n := n) (tb := tb) csA csO (uU n tb k) w PS f1 f2 p ct = .inl e → AtC n tb e h' → Fr (ltF o) (ltA o) hx h' → F 0 h') → (∀ p' t h', rFl (n := n) (tb := tb) csA csO (uU n tb k) w PS f1 f2 p ct = .inr (p', t) → AtC n tb p' h' → LTk o (T ++ t) h' → Fr (ltF o) (ltA o) hx h' → F 1 h') → Rn wC G (2 * k + 31) q_LR_readCondition 16 [some (.ref 15), some (.int (zI ((6 - k : Nat) : Int))), none, some (.int (zI (w.length : Nat))), some (.int (zI i)), none] [] hx (rI F) := by
    intro m
    induction m using Nat.strongRecOn with
    | ind m ih =>
      intro p i w PS ct f1 f2 hx hpm hi hf1 hf2 hw hT T0 S0 Kl Kr
      have hp : p ≤ n := by omega
      have s1 := sk_ge (tb := tb) hp
      have s2 := sk_le (tb := tb) hp
      have cl := chA_le ok (sk n tb p)
      have hcn : ¬ 160 ≤ zI (i : Int) := by rw [show (160 : Int32) = zI 160 from by decide, zI_le (by omega) (by omega)]; omega
      have wl : w.length ≤ 1 := by rcases hw with rfl | rfl <;> simp
      have w0 : zI (w.length : Nat) = 0 ↔ w = [] := by rw [z0_iff (by omega), List.length_eq_zero_iff]
      refine w_LR_readCondition_16 _ _ _ ⟨fun c => absurd c hcn, fun _ => look_c ok hp T0 (fun h1 T1 f1' => ?_)⟩
      have S1 := S0.fr1 ho f1'
      have fr1 : Fr (ltF o) (ltA o) hx h1 := f1'.lt1
      have h12 : h1.2.2 = o := S1.1
      have T2 : AtC n tb (sk n tb p + 1) (rx_pf h1 1 2 (h1.1 1 2 + 1)) := T1.to (by rw [T1.2]; exact zI_add _ 1)
      have f2' : Fr [(1, 2)] [] h1 (rx_pf h1 1 2 (h1.1 1 2 + 1)) := Fr.rf.pf (by decide)
      have S2 := S1.fr1 ho f2'
      have ei : zI (i : Int) + 1 = zI ((i + 1 : Nat) : Int) := zI_add i 1
      rw [ei]
      have q38 : zI (chA n tb (sk n tb p) : Nat) = 38 ↔ chA n tb (sk n tb p) = 38 := by rw [show (38 : Int32) = zI 38 from by decide, zI_eq (by omega) (by omega)]; omega
      have q124 : zI (chA n tb (sk n tb p) : Nat) = 124 ↔ chA n tb (sk n tb p) = 124 := by rw [show (124 : Int32) = zI 124 from by decide, zI_eq (by omega) (by omega)]; omega
      have putw : ∀ hy : rx_Hp, LTk o (T ++ (PS ++ ct)) hy → ¬ w = [] → p_Li_add o 124 0 hy ∧ LTk o (T ++ (PS ++ (ct ++ w))) (g_Li_add o 124 0 hy) ∧ Fr [(o, 2)] (ltA o) hy (g_Li_add o 124 0 hy) := by
        intro hy Sy hn0
        have hw' : w = [(11, 0)] := by rcases hw with h | h; exact absurd h hn0; exact h
        have hl : w.length = 1 := by rw [hw']; rfl
        obtain ⟨a1, a2, a3⟩ := add_c ho Sy (by rw [List.length_append]; omega) 11 0
        rw [hw', show T ++ (PS ++ (ct ++ [(11, 0)])) = T ++ (PS ++ ct) ++ [(11, 0)] by simp]
        exact ⟨a1, a2, a3⟩
      refine ⟨fun c => ⟨fun c2 => ?_, fun _ => ?_⟩, fun c => ⟨fun c2 => ?_, fun c2 => ?_⟩⟩
      · have := q38.mp c; have := q124.mp c2; omega
      · -- and
        have c := q38.mp c
        have hlt := chA_lt c (by omega)
        have hj1 : csA (chA n tb (sk n tb p)) = some 10 := by rw [c]; rfl
        obtain ⟨f1p, rfl⟩ : ∃ f1p, f1 = f1p + 1 := ⟨f1 - 1, by omega⟩
        have eR : rFl (n := n) (tb := tb) csA csO (uU n tb k) w PS (f1p + 1) f2 p ct = bnd (uU n tb k (sk n tb p + 1)) (fun p' t => rFl (n := n) (tb := tb) csA csO (uU n tb k) w PS f1p f2 p' (ct ++ (t ++ [(10, 0)]))) := by
          unfold rFl
          rw [lpO_go hj1, bnd_bnd]
        rw [eR] at Kl Kr
        refine hU _ (sk n tb p + 1) (T ++ (PS ++ ct)) _ (by omega) ?_ T2 S2 (fun e h3 he T3 f3 => ?_) (fun p' t h3 he T3 S3 f3 => ?_)
        · simp only [List.length_append] at hT ⊢; omega
        · rw [he, bnd_l] at Kl
          exact ⟨fun _ => Kl e h3 rfl T3 (fr1.tr (f2'.lt1.tr f3)), fun z => absurd rfl z⟩
        · rw [he] at Kl Kr
          obtain ⟨-, g2⟩ := gd_U ok k (sk n tb p + 1) (by omega)
          obtain ⟨a1, a2, a3, a4⟩ := g2 p' t he
          refine ⟨fun z => absurd z (by decide), fun _ => ?_⟩
          rw [S3.1]
          obtain ⟨b1, b2', b3⟩ := add_c ho S3 (by simp only [List.length_append] at hT ⊢; omega) 10 0
          have ew : ((if zI (w.length : Nat) = 0 then 0 else 1) : Int32) = zI (w.length : Nat) := by
            rcases hw with rfl | rfl
            · decide
            · decide
          rw [ew]
          refine ⟨ho, b1, ih (n - p') (by omega) p' (i + 1) w PS (ct ++ (t ++ [(10, 0)])) f1p f2 _ (by omega) (by omega) (by omega) (by omega) hw ?_ (T3.lt ho b3) ?_ (fun e h' he' T' f' => Kl e h' he' T' (fr1.tr (f2'.lt1.tr (f3.tr (b3.lt2.tr f'))))) (fun p'' t' h' he' T' S' f' => Kr p'' t' h' he' T' S' (fr1.tr (f2'.lt1.tr (f3.tr (b3.lt2.tr f')))))⟩
          · simp only [List.length_append, List.length_singleton] at hT ⊢; omega
          · rw [show T ++ (PS ++ (ct ++ (t ++ [(10, 0)]))) = T ++ (PS ++ ct) ++ t ++ [(10, 0)] by simp]; exact b2'
      · -- or
        have c2 := q124.mp c2
        have hlt := chA_lt c2 (by omega)
        have zT : csA (chA n tb (sk n tb p)) = none := by rw [c2]; rfl
        have hj1 : csO (chA n tb (sk n tb p)) = some 11 := by rw [c2]; rfl
        obtain ⟨f2p, rfl⟩ : ∃ f2p, f2 = f2p + 1 := ⟨f2 - 1, by omega⟩
        have eR : rFl (n := n) (tb := tb) csA csO (uU n tb k) w PS f1 (f2p + 1) p ct = bnd (uU n tb k (sk n tb p + 1)) (fun p' t => rFl (n := n) (tb := tb) csA csO (uU n tb k) [(11, 0)] (PS ++ (ct ++ w)) n f2p p' t) := by
          unfold rFl
          rw [lpO_stop zT, bnd_r, lpO_go (k := 11) (by rw [sk_sk hp]; exact hj1), sk_sk hp, bnd_bnd]
        rw [eR] at Kl Kr
        have nextA : ∀ hy : rx_Hp, AtC n tb (sk n tb p + 1) hy → LTk o (T ++ (PS ++ (ct ++ w))) hy → Fr (ltF o) (ltA o) hx hy → Ev wC G (2 * k + 30) q_LR_readUnit [.ref 15, .int (zI ((6 - k : Nat) : Int)), .int 0] hy (rI fun r8 h7 => (r8 = 0 → F 0 h7) ∧ (¬ r8 = 0 → Rn wC G (2 * k + 31) q_LR_readCondition 16 [some (.ref 15), some (.int (zI ((6 - k : Nat) : Int))), none, some (.int 1), some (.int (zI ((i + 1 : Nat) : Int))), none] [] h7 (rI F))) := by
          intro hy Ty Sy fy
          refine hU _ (sk n tb p + 1) (T ++ (PS ++ (ct ++ w))) hy (by omega) ?_ Ty Sy (fun e h7 he T7 f7 => ?_) (fun p' t h7 he T7 S7 f7 => ?_)
          · simp only [List.length_append] at hT ⊢; omega
          · rw [he, bnd_l] at Kl
            exact ⟨fun _ => Kl e h7 rfl T7 (fy.tr f7), fun z => absurd rfl z⟩
          · rw [he] at Kl Kr
            obtain ⟨-, g2⟩ := gd_U ok k (sk n tb p + 1) (by omega)
            obtain ⟨a1, a2, a3, a4⟩ := g2 p' t he
            refine ⟨fun z => absurd z (by decide), fun _ => ?_⟩
            have R := ih (n - p') (by omega) p' (i + 1) [(11, 0)] (PS ++ (ct ++ w)) t n f2p h7 (by omega) (by omega) (by omega) (by omega) (Or.inr rfl) (by simp only [List.length_append, List.length_singleton] at hT ⊢; omega) T7 (by rw [show T ++ ((PS ++ (ct ++ w)) ++ t) = T ++ (PS ++ (ct ++ w)) ++ t by simp]; exact S7) (fun e h' he' T' f' => Kl e h' he' T' (fy.tr (f7.tr f'))) (fun p'' t' h' he' T' S' f' => Kr p'' t' h' he' T' S' (fy.tr (f7.tr f')))
            exact R
        refine ⟨fun z => ?_, fun z => ?_⟩
        · have z := w0.mp z
          refine nextA _ T2 ?_ (fr1.tr f2'.lt1)
          rw [z, List.append_nil]; exact S2
        · have z := mt w0.mpr z
          rw [h12]
          obtain ⟨a1, a2, a3⟩ := putw _ S2 z
          exact ⟨ho, a1, nextA _ (T2.lt ho a3) a2 (fr1.tr (f2'.lt1.tr a3.lt2))⟩
      · have zA : csA (chA n tb (sk n tb p)) = none := by unfold csA; rw [if_neg (fun y => c (q38.mpr y))]
        have zO : csO (chA n tb (sk n tb p)) = none := by unfold csO; rw [if_neg (fun y => c2 (q124.mpr y))]
        have eR : rFl (n := n) (tb := tb) csA csO (uU n tb k) w PS f1 f2 p ct = .inr (sk n tb p, PS ++ (ct ++ w)) := by
          unfold rFl
          rw [lpO_stop zA, bnd_r, lpO_stop (by rw [sk_sk hp]; exact zO), sk_sk hp]
        rw [eR] at Kr
        refine ⟨fun y => ?_, fun y => ?_⟩
        · have y := w0.mp y
          refine Kr _ _ h1 rfl T1 ?_ fr1
          rw [y, List.append_nil]; exact S1
        · have y := mt w0.mpr y
          rw [h12]
          obtain ⟨a1, a2, a3⟩ := putw _ S1 y
          exact ⟨ho, a1, Kr _ _ _ rfl (T1.lt ho a3) a2 (fr1.tr a3.lt2)⟩
  have eS : cdT n tb (uU n tb k) (u1 p) = bnd (u1 p) (fun p' t => rFl (n := n) (tb := tb) csA csO (uU n tb k) [] [] n n p' t) := by
    unfold cdT anP rFl
    rw [bnd_bnd]
    simp only [List.nil_append, List.append_nil]
  simp only [eS] at Kl Kr
  refine w_LR_readCondition _ _ (h1U _ p T hc hp hT T0 S0 (fun e h1 he T1 f1 => ?_) (fun p' t h1 he T1 S1 f1 => ?_))
  · rw [he, bnd_l] at Kl
    exact ⟨fun _ => Kl e h1 rfl T1 f1, fun z => absurd rfl z⟩
  · rw [he] at Kl Kr
    obtain ⟨-, g2⟩ := h1g p hp
    obtain ⟨a1, a2, a3, a4⟩ := g2 p' t he
    refine ⟨fun z => absurd z (by decide), fun _ => ?_⟩
    have R := lp (n - p') p' 0 [] [] t n n h1 (by omega) (by omega) (by omega) (by omega) (Or.inl rfl) (by simp only [List.nil_append, List.length_nil]; omega) T1 S1 (fun e h' he' T' f' => Kl e h' he' T' (f1.tr f')) (fun p'' t' h' he' T' S' f' => Kr p'' t' h' he' T' S' (f1.tr f'))
    exact R
theorem gd_tr {P : List Tk → Prop} {p : Nat} {r : Rs} (g : gd n P p r) : gd n (fun _ => True) p r := ⟨g.1, fun p' t he => by obtain ⟨a, b, c, -⟩ := g.2 p' t he; exact ⟨a, b, c, trivial⟩⟩
theorem unit_cc {G : rx_Gh} (ok : TOk n tb) (ho : isL o) : ∀ k, k ≤ 6 → CtC n tb o G (2 * k + 30) q_LR_readUnit [.ref 15, .int (zI ((6 - k : Nat) : Int)), .int 0] (uU n tb k)
  | 0, hk => un_c ok ho hk (sum_cc ok ho 0 hk) (fun k' h => absurd h (by omega)) (fun k' h => absurd h (by omega))
  | k + 1, hk => un_c ok ho hk (sum_cc ok ho (k + 1) hk) (fun k' h => by
      have : k' = k := by omega
      subst this
      exact unit_cc ok ho k' (by omega)) (fun k' h => by
      have : k' = k := by omega
      subst this
      exact cd_c ok ho (by omega) (unit_cc ok ho k' (by omega)) (unit_cc ok ho k' (by omega)) (fun p hp => gd_tr (gd_U ok k' p hp)))
theorem cond_cc {G : rx_Gh} (ok : TOk n tb) (ho : isL o) : CtC n tb o G 43 q_LR_readCondition [.ref 15, .int 0, .int 0] (cC n tb 6) := cd_c (k := 6) ok ho (by omega) (unit_cc ok ho 6 (by omega)) (unit_cc ok ho 6 (by omega)) (fun p hp => gd_tr (gd_U ok 6 p hp))
theorem cond_c1 {G : rx_Gh} (ok : TOk n tb) (ho : isL o) : CtC n tb o G 43 q_LR_readCondition [.ref 15, .int 0, .int 1] (fun p => cdT n tb (uU n tb 6) (cmQ n tb 6 p)) := cd_c (k := 6) ok ho (by omega) (unit_cc ok ho 6 (by omega)) (un1_c ok ho (sum_cc ok ho 6 (by omega))) (fun p hp => gd_cmQ ok 6 hp)
theorem sum_c6 {G : rx_Gh} (ok : TOk n tb) (ho : isL o) : CtC n tb o G 23 q_LR_readSum [.ref 15, .int 0] (sS n tb 6) := sum_cc ok ho 6 (by omega)
end LRU

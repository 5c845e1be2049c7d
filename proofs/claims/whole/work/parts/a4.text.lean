/-! text: both sides at once -/
/-- both sides, asked alike, answer alike and stay alike -/
def Pd (dC dM : Nat) (qc qm : rx_Mi) (as : List Value) (S : Gs) : Prop := ∃ (v : Int32) (S' : Gs), ROk S' ∧ (∀ (G : rx_Gh) (hc : rx_Hp), RC S hc → Ev wC G dC qc (.ref 0 :: as) hc (rI fun x h => x = v ∧ RC S' h)) ∧ ∀ (G : rx_Gh) (hm : rx_Hp), RM S hm → Ev wM G dM qm (.ref 0 :: as) hm (rI fun x h => x = v ∧ RM S' h)
theorem z00 : (0 : Int32) = zI ((0 : Nat) : Int) := by decide
theorem pH_ok {n : Nat} {tb : Nat → Nat} (ok : TOk n tb) : ∀ (m p : Nat) (s s' : HS), p ≤ n → okS s → pH n tb m p s = .inr s' → okS s' ∧ whB s' = true
  | 0, p, s, s', hp, hs, h => by cases h
  | m + 1, p, s, s', hp, hs, h => by
    have l7 : ∀ k, k < 7 → lsL k ≤ lsU k ∧ lsU k ≤ lsM k := fun k hk => ⟨(ls_bd ⟨k, hk⟩).1, (ls_bd ⟨k, hk⟩).2.1⟩
    have s2 := sk_le (n := n) (tb := tb) hp
    have bc : ∀ p' s', pCl n tb p s = .inr (p', s') → p' ≤ n ∧ okS s' := by
      unfold pCl
      by_cases c1 : chA n tb (sk n tb p) = 114 ∧ s.1 = false
      · rw [if_pos c1]
        have hlt := chA_lt c1.1 (by omega)
        obtain ⟨b1, b2⟩ := pIt_bd (n := n) (tb := tb) (a := 0) (c := 4) 4 (sk n tb p + 1) 0 lsU (by omega) l7
        cases e1 : pIt n tb 0 4 4 (sk n tb p + 1) 0 lsU with
        | inl e' => exact fun p' s' he => (by cases he)
        | inr y =>
          obtain ⟨p1, v⟩ := y
          exact fun p' s' he => (by cases he; exact ⟨(b2 p1 v e1).2.1, hs.1, fun k hk => (b2 p1 v e1).2.2 k (by omega), hs.2.2⟩)
      · rw [if_neg c1]
        by_cases c2 : chA n tb (sk n tb p) = 98 ∧ s.2.1 < 6
        · rw [if_pos c2]
          have hlt := chA_lt c2.1 (by omega)
          obtain ⟨b1, b2⟩ := pIt_bd (n := n) (tb := tb) (a := 4) (c := 3) 3 (sk n tb p + 1) 0 lsU (by omega) l7
          cases e1 : pIt n tb 4 3 3 (sk n tb p + 1) 0 lsU with
          | inl e' => exact fun p' s' he => (by cases he)
          | inr y =>
            obtain ⟨p1, v⟩ := y
            refine fun p' s' he => ?_
            cases he
            refine ⟨(b2 p1 v e1).2.1, c2.2, hs.2.1, fun b hb k hk => ?_⟩
            have hb : b < s.2.1 + 1 := hb
            show lsL (4 + k) ≤ (if b = s.2.1 then (fun k => v (4 + k)) else s.2.2.2 b) k ∧ (if b = s.2.1 then (fun k => v (4 + k)) else s.2.2.2 b) k ≤ lsM (4 + k)
            by_cases q : b = s.2.1
            · rw [if_pos q]; exact (b2 p1 v e1).2.2 (4 + k) (by omega)
            · rw [if_neg q]; exact hs.2.2 b (by omega) k hk
        · rw [if_neg c2]
          exact fun p' s' he => (by cases he)
    unfold pH at h
    cases e1 : pCl n tb p s with
    | inl e' => rw [e1] at h; cases h
    | inr y =>
      obtain ⟨p', s1⟩ := y
      obtain ⟨hp', hs'⟩ := bc p' s1 e1
      have s3 := sk_le (n := n) (tb := tb) hp'
      rw [e1] at h
      simp only at h
      by_cases c0 : chA n tb (sk n tb p') = 0
      · rw [if_pos c0] at h
        by_cases w : whB s1 = true
        · rw [if_pos w] at h; cases h; exact ⟨hs', w⟩
        · rw [if_neg w] at h; cases h
      · rw [if_neg c0] at h
        by_cases c1 : chA n tb (sk n tb p') = 59
        · rw [if_pos c1] at h
          have hlt := chA_lt c1 (by omega)
          exact pH_ok ok m _ _ s' (by omega) hs' h
        · rw [if_neg c1] at h; cases h
theorem pHall_ok {n : Nat} {tb : Nat → Nat} (ok : TOk n tb) {s : HS} (h : pHall n tb = .inr s) : okS s ∧ whB s = true := pH_ok ok 7 0 hs0 s (by omega) hs0_ok h
section TXP
variable {S : Gs}
theorem t_text_0e (ok : ROk S) {e : Nat} (he : pHall S.n S.tb = .inl e) : Pd 52 77 q_GR_text q_M_text [.int 0] S := by
  have e1 : e ≤ S.n := pH_e ok.t 7 0 hs0 e (by omega) he
  have o1 := ok.t.1
  have nz := nz_e (e := e) (by omega)
  refine ⟨-1, S, ok, fun G hc r => ?_, fun G hm r => ?_⟩
  · refine w_GR_text 0 ⟨fun _ => ?_, fun c => absurd rfl c⟩
    refine read_hc ok.t r.t (fun e' h' he' f' => ?_) (fun s h' hs _ _ _ _ => absurd (he.symm.trans hs) (by simp))
    have : e' = e := by rw [he] at he'; cases he'; rfl
    subst this
    exact ⟨fun c => absurd c nz, fun _ => ⟨fun c => absurd c (by decide), fun _ => ⟨rfl, r.fr ok f'⟩⟩⟩
  · refine w_M_text 0 ⟨fun _ => ?_, fun c => absurd rfl c⟩
    refine read_hm ok.t r.t (fun e' h' he' f' => ?_) (fun s h' hs _ _ _ _ => absurd (he.symm.trans hs) (by simp))
    have : e' = e := by rw [he] at he'; cases he'; rfl
    subst this
    exact ⟨fun c => absurd c nz, fun _ => ⟨fun c => absurd c (by decide), fun _ => ⟨rfl, r.fr f'⟩⟩⟩
theorem t_text_0s (ok : ROk S) {s : HS} (hs : pHall S.n S.tb = .inr s) (os : okS s) (wh : whB s = true) : Pd 52 77 q_GR_text q_M_text [.int 0] S := by
  have ok' : ROk ((0, S.tb), (s.2.1, s.2.2.1 0, s.2.2.1 1, s.2.2.1 2, s.2.2.1 3, hX s, hY s, hA s), (0, S.R), (0, S.kr), (0, S.pe, S.pf), (S.nl, S.hd, S.Lt)) :=
    ⟨⟨Nat.zero_le _, fun i hi => absurd hi (Nat.not_lt_zero i)⟩, hs_HOk os wh, ⟨Nat.zero_le _, fun k hk => absurd hk (Nat.not_lt_zero k)⟩, ⟨Nat.zero_le _, fun c => absurd c Nat.zero_ne_one⟩, ⟨Nat.zero_le _, fun k hk => absurd hk (Nat.not_lt_zero k)⟩, ok.l, ok.g⟩
  refine ⟨zI (s.2.1 : Nat), _, ok', fun G hc r => ?_, fun G hm r => ?_⟩
  · refine w_GR_text 0 ⟨fun _ => ?_, fun c => absurd rfl c⟩
    refine read_hc ok.t r.t (fun e' h' he' f' => absurd (hs.symm.trans he') (by simp)) (fun s' h1 hs' _ _ S1 f1 => ?_)
    have : s' = s := by rw [hs] at hs'; cases hs'; rfl
    subst this
    refine ⟨fun _ => ?_, fun c => absurd rfl c⟩
    refine bec_c os wh S1 (fun h3 H3 f2 => ?_)
    have f3 : Fr [(37, 2), (47, 3), (0, 16), (1, 1)] [] h3 (rx_pf (rx_pf (rx_pf (rx_pf h3 37 2 0) 47 3 0) 0 16 0) 1 1 0) := (((Fr.rf.pf (by decide)).pf (by decide)).pf (by decide)).pf (by decide)
    have r3 := ((r.l.fr f1).fr f2).fr f3
    have r4 := ((r.g.fr ok.l.1 f1).fr ok.l.1 f2).fr ok.l.1 f3
    obtain ⟨nx, a1, a2, a3, a4⟩ := r.a
    refine ⟨H3.1.1, ⟨?_, fun i hi => absurd hi (Nat.not_lt_zero i)⟩, H3.fr f3, ⟨nx, a1, ?_, ?_, fun k hk => absurd hk (Nat.not_lt_zero k)⟩, ⟨?_, fun c => absurd c Nat.zero_ne_one⟩, ⟨?_, fun k hk => absurd hk (Nat.not_lt_zero k)⟩, r3, r4⟩
    · rw [pf_same]; exact z00
    · rw [pf_ne _ _ (by decide), pf_ne _ _ (by decide), pf_ne _ _ (by decide), pf_same]; exact z00
    · rw [f3.1 37 1 (by decide), f2.1 37 1 (by decide), f1.1 37 1 (by decide)]; exact a3
    · rw [pf_ne _ _ (by decide), pf_same]; exact z00
    · rw [pf_ne _ _ (by decide), pf_ne _ _ (by decide), pf_same]; exact z00
  · refine w_M_text 0 ⟨fun _ => ?_, fun c => absurd rfl c⟩
    refine read_hm ok.t r.t (fun e' h' he' f' => absurd (hs.symm.trans he') (by simp)) (fun s' h1 hs' _ _ S1 f1 => ?_)
    have : s' = s := by rw [hs] at hs'; cases hs'; rfl
    subst this
    refine ⟨fun _ => ?_, fun c => absurd rfl c⟩
    have f2 : Fr [(0, 2)] [] h1 (rx_pf h1 0 2 0) := Fr.rf.pf (by decide)
    refine tak_m os wh (S1.fr f2) (fun h3 H3 p42 p30 p44 f3 => ?_)
    have r3 := ((r.l.fr f1).fr f2).fr f3
    have r4 := ((r.g.fr f1).fr f2).fr f3
    refine ⟨rfl, ⟨?_, fun i hi => absurd hi (Nat.not_lt_zero i)⟩, H3, ⟨?_, fun k hk => absurd hk (Nat.not_lt_zero k)⟩, ⟨?_, fun c => absurd c Nat.zero_ne_one⟩, ⟨?_, fun k hk => absurd hk (Nat.not_lt_zero k)⟩, r3, r4⟩
    · rw [f3.1 0 2 (by decide), pf_same]; exact z00
    · rw [p30]; exact z00
    · rw [p44]; exact z00
    · rw [p42]; exact z00
theorem fo_nl {nl : Nat} (h : nl ≤ 4) : (4 ≤ zI (nl : Int)) ↔ 4 ≤ nl := by
  rw [show (4 : Int32) = zI 4 from by decide, zI_le (by omega) (by omega)]; omega
theorem lt_disj {nl : Nat} (h : nl ≤ 4) : (∀ x ∈ cfs, x ∈ ltF (20 + 3 * nl) → x = (20 + 3 * nl, 2)) ∧ (∀ x ∈ cas, x ∈ ltA (20 + 3 * nl) → x ∈ lgA) := by
  have : nl = 0 ∨ nl = 1 ∨ nl = 2 ∨ nl = 3 ∨ nl = 4 := by omega
  rcases this with rfl | rfl | rfl | rfl | rfl <;> exact ⟨by decide, by decide⟩
theorem lgc_lt {nl : Nat} {Lt : Nat → List Cl} {a b : rx_Hp} (h : LGC nl Lt a) {fs : List (Nat × Nat)} {as : List Nat} (f : Fr fs as a b) (h1 : ∀ i, i < nl → (20 + 3 * i, 2) ∉ fs) (h2 : ∀ i, i < nl → 20 + 3 * i + 1 ∉ as ∧ 20 + 3 * i + 2 ∉ as) : LGC nl Lt b := by
  intro i hi
  obtain ⟨q1, q2⟩ := h i hi
  refine ⟨?_, fun j t ht => ?_⟩
  · rw [f.1 (20 + 3 * i) 2 (h1 i hi)]; exact q1
  · rw [f.2.1 (20 + 3 * i + 1) (h2 i hi).1, f.2.1 (20 + 3 * i + 2) (h2 i hi).2]; exact q2 j t ht
/-- a light's reader leaves the state -/
theorem RC.lt {a b : rx_Hp} (r : RC S a) (ok : ROk S) {fs : List (Nat × Nat)} {as : List Nat} (f : Fr fs as a b) (h1 : ∀ x ∈ fs, x = (20 + 3 * S.nl, 2) ∨ x ∈ hrF) (h2 : ∀ x ∈ as, x = 20 + 3 * S.nl + 1 ∨ x = 20 + 3 * S.nl + 2 ∨ x ∈ hrA) : RC S b := by
  have n4 := ok.l.1
  have d1 : ∀ k j, (k, j) ∉ hrF → k < 20 ∨ 32 < k → (k, j) ∉ fs := by
    intro k j q1 q2 q
    rcases h1 _ q with e | e
    · have : k = 20 + 3 * S.nl := congrArg Prod.fst e
      omega
    · exact q1 e
  have d2 : ∀ k, k ∉ hrA → k < 21 ∨ 34 < k → k ∉ as := by
    intro k q1 q2 q
    rcases h2 _ q with e | e | e
    · omega
    · omega
    · exact q1 e
  obtain ⟨q1, q2, ⟨nx, q3⟩, q4, q5, q6, q7⟩ := r
  refine ⟨q1.fr f (d1 _ _ (by decide) (by decide)) (d2 _ (by decide) (by decide)), q2.fr f ⟨d1 _ _ (by decide) (by decide), d1 _ _ (by decide) (by decide), d1 _ _ (by decide) (by decide), d1 _ _ (by decide) (by decide), d1 _ _ (by decide) (by decide)⟩ ⟨d2 _ (by decide) (by decide), d2 _ (by decide) (by decide), d2 _ (by decide) (by decide), d2 _ (by decide) (by decide)⟩, ⟨nx, q3.fr f ⟨d1 _ _ (by decide) (by decide), d1 _ _ (by decide) (by decide)⟩ (d2 _ (by decide) (by decide))⟩, q4.fr f (d1 _ _ (by decide) (by decide)) (d2 _ (by decide) (by decide)), q5.fr f (d1 _ _ (by decide) (by decide)) ⟨d2 _ (by decide) (by decide), d2 _ (by decide) (by decide)⟩, q6.fr f ⟨d1 _ _ (by decide) (by decide), d1 _ _ (by decide) (by decide)⟩, lgc_lt q7 f (fun i hi q => ?_) (fun i hi => ⟨fun q => ?_, fun q => ?_⟩)⟩
  · rcases h1 _ q with e | e
    · have : 20 + 3 * i = 20 + 3 * S.nl := congrArg Prod.fst e
      omega
    · have : ∀ x ∈ hrF, x.1 < 20 := by decide
      have := this _ e
      simp at this
      omega
  · rcases h2 _ q with e | e | e
    · omega
    · omega
    · have : ∀ x ∈ hrA, x < 20 := by decide
      have := this _ e
      omega
  · rcases h2 _ q with e | e | e
    · omega
    · omega
    · have : ∀ x ∈ hrA, x < 20 := by decide
      have := this _ e
      omega
theorem t_fault (ok : ROk S) (k : Int32) : Pd 52 77 q_GR_fault q_M_fault [.int k] S := by
  refine ⟨A_fault S.n S.tb k, S, ok, fun G hc r => ?_, fun G hm r => ?_⟩
  · have h1 : ∀ x ∈ fcF S.nl, x = (20 + 3 * S.nl, 2) ∨ x ∈ hrF := by
      intro x hx
      rcases List.mem_append.mp hx with h | h
      · exact Or.inr h
      · exact Or.inl (by simpa using h)
    have h2 : ∀ x ∈ fcA S.nl, x = 20 + 3 * S.nl + 1 ∨ x = 20 + 3 * S.nl + 2 ∨ x ∈ hrA := by
      intro x hx
      rcases List.mem_append.mp hx with h | h
      · exact Or.inr (Or.inr h)
      · rcases List.mem_cons.mp h with h | h
        · exact Or.inl h
        · exact Or.inr (Or.inl (by simpa using h))
    refine a_fault_c ok.t ok.l.1 r.t r.l.1 k (fun h' f => ⟨rfl, ?_⟩)
    rcases f with f | f
    · exact r.lt ok f h1 h2
    · exact (r.pl _).lt ok f h1 h2
  · refine a_fault_m ok.t r.t k (fun h' f => ⟨rfl, ?_⟩)
    rcases f with f | f
    · exact r.fr f
    · exact r.mw ok.l.1 ok.lz f
theorem lt_h (nl : Nat) : (∀ x ∈ ltF (20 + 3 * nl), x = (20 + 3 * nl, 2) ∨ x ∈ hrF) ∧ ∀ x ∈ ltA (20 + 3 * nl), x = 20 + 3 * nl + 1 ∨ x = 20 + 3 * nl + 2 ∨ x ∈ hrA := by
  refine ⟨fun x hx => ?_, fun x hx => ?_⟩
  · rcases List.mem_cons.mp hx with h | h
    · subst h; exact Or.inr (by decide)
    · exact Or.inl (by simpa using h)
  · rcases List.mem_cons.mp hx with h | h
    · exact Or.inl h
    · exact Or.inr (Or.inl (by simpa using h))
theorem t_text_1e (ok : ROk S) (n4 : S.nl < 4) {e : Nat} (he : pLight S.n S.tb = .inl e) : Pd 52 77 q_GR_text q_M_text [.int 1] S := by
  have e1 : e ≤ S.n := pLi_e ok.t (S.n + 1) 0 [] e (by omega) (by omega) he
  have o1 := ok.t.1
  have nz := nz_e (e := e) (by omega)
  refine ⟨-1, S, ok, fun G hc r => ?_, fun G hm r => ?_⟩
  · refine w_GR_text 1 ⟨fun c => absurd c (by decide), fun _ => ⟨fun _ => ⟨fun c => ?_, fun _ => ?_⟩, fun c => absurd rfl c⟩⟩
    · rw [r.l.1] at c; have := (fo_nl ok.l.1).mp c; omega
    · refine frl_c ok.l.1 r.l.1 (fun il => read_lc ok.t il r.t (fun e' h' he' f' => ?_) (fun Lx h' he' _ f' => absurd (he.symm.trans he') (by simp)))
      have : e' = e := by rw [he] at he'; cases he'; rfl
      subst this
      exact ⟨fun c => absurd c nz, fun _ => ⟨rfl, (r.pl _).lt ok f' (lt_h _).1 (lt_h _).2⟩⟩
  · refine w_M_text 1 ⟨fun c => absurd c (by decide), fun _ => ⟨fun _ => ⟨fun c => ?_, fun _ => ?_⟩, fun c => absurd rfl c⟩⟩
    · rw [r.l.1] at c; have := (fo_nl ok.l.1).mp c; omega
    · rw [r.l.1]
      refine read_lm ok.t (by omega) r.t (fun e' h' he' f' => ?_) (fun Lx h' he' _ f' => absurd (he.symm.trans he') (by simp))
      have : e' = e := by rw [he] at he'; cases he'; rfl
      subst this
      exact ⟨fun c => absurd c nz, fun _ => ⟨rfl, r.mw (Nat.le_refl _) ok.lz f'⟩⟩
theorem t_text_1s (ok : ROk S) (n4 : S.nl < 4) {L : List Cl} (he : pLight S.n S.tb = .inr L) : Pd 52 77 q_GR_text q_M_text [.int 1] S := by
  have hw := pLight_ok ok.t he
  have ok' : ROk ((0, S.tb), S.2.1, S.2.2.1, S.2.2.2.1, S.2.2.2.2.1, (S.nl + 1, S.hd, fun i => if i = S.nl then L else S.Lt i)) := by
    refine ⟨⟨Nat.zero_le _, fun i hi => absurd hi (Nat.not_lt_zero i)⟩, ok.h, ok.a, ok.k, ok.p, ⟨?_, ok.l.2.1, ?_⟩, fun i hi => ?_⟩
    · show S.nl + 1 ≤ 4; omega
    · have := ok.l.2.2; show S.hd < ((S.nl + 1 : Nat) : Int); omega
    · show wfL (if i = S.nl then L else S.Lt i)
      by_cases q : i = S.nl
      · rw [if_pos q]; exact hw
      · rw [if_neg q]
        have hi : i < S.nl + 1 := hi
        exact ok.g i (by omega)
  have ea : zI (S.nl : Int) + 1 = zI ((S.nl + 1 : Nat) : Int) := zI_add _ 1
  have eb : zI ((S.nl + 1 : Nat) : Int) - 1 = zI (S.nl : Int) := by
    rw [show (1 : Int32) = zI 1 from by decide, zI_sub]; congr 1; omega
  refine ⟨zI (S.nl : Int), _, ok', fun G hc r => ?_, fun G hm r => ?_⟩
  · refine w_GR_text 1 ⟨fun c => absurd c (by decide), fun _ => ⟨fun _ => ⟨fun c => ?_, fun _ => ?_⟩, fun c => absurd rfl c⟩⟩
    · rw [r.l.1] at c; have := (fo_nl ok.l.1).mp c; omega
    · refine frl_c ok.l.1 r.l.1 (fun il => read_lc ok.t il r.t (fun e' h' he' f' => absurd (he.symm.trans he') (by simp)) (fun Lx h' he' L1 f' => ?_))
      have : Lx = L := by rw [he] at he'; cases he'; rfl
      subst this
      have r1 := (r.pl _).lt ok f' (lt_h _).1 (lt_h _).2
      refine ⟨fun _ => ?_, fun c => absurd rfl c⟩
      rw [r1.l.1, ea, eb]
      have f2 : Fr [(0, 14), (1, 1)] [] h' (rx_pf (rx_pf h' 0 14 (zI ((S.nl + 1 : Nat) : Int))) 1 1 0) := (Fr.rf.pf (by decide)).pf (by decide)
      obtain ⟨nx, a1⟩ := r1.a
      have g1 := r1.g.fr ok.l.1 f2
      refine ⟨rfl, ⟨?_, fun i hi => absurd hi (Nat.not_lt_zero i)⟩, r1.h.fr f2, ⟨nx, a1.fr f2⟩, r1.k.fr f2, r1.p.fr f2, ⟨?_, ?_⟩, fun i hi => ?_⟩
      · rw [pf_same]; exact z00
      · rw [pf_ne _ _ (by decide), pf_same]
      · rw [f2.1 0 15 (by decide)]; exact r1.l.2
      · show LtC (20 + 3 * i) (if i = S.nl then Lx else S.Lt i) _
        by_cases q : i = S.nl
        · rw [if_pos q, q]
          obtain ⟨l1, l2, l3⟩ := L1
          refine ⟨?_, fun j t ht => l3 j t ht⟩
          rw [f2.1 (20 + 3 * S.nl) 2 (by simp)]; exact l2
        · rw [if_neg q]
          have hi : i < S.nl + 1 := hi
          exact g1 i (by omega)
  · refine w_M_text 1 ⟨fun c => absurd c (by decide), fun _ => ⟨fun _ => ⟨fun c => ?_, fun _ => ?_⟩, fun c => absurd rfl c⟩⟩
    · rw [r.l.1] at c; have := (fo_nl ok.l.1).mp c; omega
    · rw [r.l.1]
      refine read_lm ok.t (by omega) r.t (fun e' h' he' f' => absurd (he.symm.trans he') (by simp)) (fun Lx h' he' L1 f' => ?_)
      have : Lx = L := by rw [he] at he'; cases he'; rfl
      subst this
      have r1 := r.mw (Nat.le_refl _) ok.lz f'
      refine ⟨fun _ => ?_, fun c => absurd rfl c⟩
      rw [r1.l.1, ea, eb]
      have f2 : Fr [(0, 2), (0, 13)] [] h' (rx_pf (rx_pf h' 0 2 0) 0 13 (zI ((S.nl + 1 : Nat) : Int))) := (Fr.rf.pf (by decide)).pf (by decide)
      have g1 := r1.g.fr f2
      refine ⟨rfl, ⟨?_, fun i hi => absurd hi (Nat.not_lt_zero i)⟩, r1.h.fr f2, r1.a.fr f2, r1.k.fr f2, r1.p.fr f2, ⟨?_, ?_⟩, fun i hi => ?_⟩
      · rw [pf_ne _ _ (by decide), pf_same]; exact z00
      · rw [pf_same]
      · rw [f2.1 0 28 (by decide)]; exact r1.l.2
      · show LtM i (if i = S.nl then Lx else S.Lt i) _
        by_cases q : i = S.nl
        · rw [if_pos q, q]; exact L1
        · rw [if_neg q]
          have hi : i < S.nl + 1 := hi
          exact g1 i (by omega)
theorem t_text_1f (ok : ROk S) (n4 : ¬ S.nl < 4) : Pd 52 77 q_GR_text q_M_text [.int 1] S := by
  have c4 := (fo_nl ok.l.1).mpr (by omega)
  refine ⟨-1, S, ok, fun G hc r => ?_, fun G hm r => ?_⟩
  · refine w_GR_text 1 ⟨fun c => absurd c (by decide), fun _ => ⟨fun _ => ⟨fun _ => ⟨rfl, r⟩, fun c => absurd (r.l.1 ▸ c4) c⟩, fun c => absurd rfl c⟩⟩
  · refine w_M_text 1 ⟨fun c => absurd c (by decide), fun _ => ⟨fun _ => ⟨fun _ => ⟨rfl, r⟩, fun c => absurd (r.l.1 ▸ c4) c⟩, fun c => absurd rfl c⟩⟩
theorem t_text (ok : ROk S) (k : Int32) : Pd 52 77 q_GR_text q_M_text [.int k] S := by
  by_cases c0 : k = 0
  · subst c0
    cases e : pHall S.n S.tb with
    | inl x => exact t_text_0e ok e
    | inr s =>
      have := pHall_ok ok.t e
      exact t_text_0s ok e this.1 this.2
  · by_cases c1 : k = 1
    · subst c1
      by_cases n4 : S.nl < 4
      · cases e : pLight S.n S.tb with
        | inl x => exact t_text_1e ok n4 e
        | inr L => exact t_text_1s ok n4 e
      · exact t_text_1f ok n4
    · exact ⟨-1, S, ok, fun G hc r => w_GR_text k ⟨fun c => absurd c c0, fun _ => ⟨fun c => absurd c c1, fun _ => ⟨rfl, r⟩⟩⟩, fun G hm r => w_M_text k ⟨fun c => absurd c c0, fun _ => ⟨fun c => absurd c c1, fun _ => ⟨rfl, r⟩⟩⟩⟩
end TXP

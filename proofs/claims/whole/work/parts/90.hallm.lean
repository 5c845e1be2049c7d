/-! a hall as a text: the model's whole reader -/
section HLN
variable {n : Nat} {tb : Nat → Nat}
def hmF : List (Nat × Nat) := [(0, 3), (0, 4), (0, 19)]
def FM (s : HS) (hm : rx_Hp) : Prop := hm.1 0 19 = zI (s.2.1 : Nat) ∧ (∀ k, k < 4 → hm.2.1 11 k = zI (s.2.2.1 k : Nat)) ∧ ∀ b, b < s.2.1 → ∀ k, k < 3 → hm.2.1 12 (3 * b + k) = zI (s.2.2.2 b k : Nat)
theorem FM.fr {s : HS} {a b : rx_Hp} {fs : List (Nat × Nat)} {as : List Nat} (h : FM s a) (f : Fr fs as a b) (h1 : (0, 19) ∉ fs := by decide) (h2 : 11 ∉ as ∧ 12 ∉ as := by decide) : FM s b := by
  obtain ⟨q1, q2, q3⟩ := h
  refine ⟨(f.1 _ _ h1).trans q1, fun k hk => ?_, fun b hb k hk => ?_⟩
  · rw [f.2.1 11 h2.1]; exact q2 k hk
  · rw [f.2.1 12 h2.2]; exact q3 b hb k hk
theorem ins_m2 {G : rx_Gh} {F : Int32 → rx_Hp → Prop} {s : HS} {hm : rx_Hp} (hs : okS s) (S : FM s hm) (K : F (b2 (whB s)) hm) : Ev wM G 1 q_M_areInside [.ref 0] hm (rI F) := by
  obtain ⟨so1, so2, so3⟩ := hs
  obtain ⟨q1, q2, q3⟩ := S
  have m0 := (lsM_20 0).1
  have m1 := (lsM_20 1).1
  have m4 := (lsM_20 4).1
  have m5 := (lsM_20 5).1
  have r0 : s.2.2.1 0 ≤ 99 := Nat.le_trans (so2 0 (by omega)).2 m0
  have r1 : s.2.2.1 1 ≤ 99 := Nat.le_trans (so2 1 (by omega)).2 m1
  refine w_M_areInside ?_
  have lp : ∀ (m b : Nat) (z : Bool), b + m = s.2.1 → (z = true ↔ 0 < s.2.1 ∧ ∀ b', b' < b → s.2.2.2 b' 0 ≤ s.2.2.1 0 ∧ s.2.2.2 b' 1 ≤ s.2.2.1 1) → Rn wM G 1 q_M_areInside 15 [some (.ref 0), some (.int (b2 z)), some (.int (zI b))] [] hm (rI F) := by
    intro m
    induction m with
    | zero =>
      intro b z hb hz
      refine w_M_areInside_15 _ _ ?_
      rw [q1]
      refine ⟨fun _ => ⟨b2_01 z, ?_⟩, fun c => absurd ((zI_le (by omega) (by omega)).mpr (by omega)) c⟩
      have : z = whB s := by
        have key : ∀ a b : Bool, (a = true ↔ b = true) → a = b := by intro a b h; cases a <;> cases b <;> simp_all
        apply key
        rw [hz, whA, show b = s.2.1 by omega]
      rw [this]; exact K
    | succ m ih =>
      intro b z hb hz
      have k0 := q3 b (by omega) 0 (by omega)
      have k1 := q3 b (by omega) 1 (by omega)
      have c0 : s.2.2.2 b 0 ≤ 99 := Nat.le_trans (so3 b (by omega) 0 (by omega)).2 m4
      have c1 : s.2.2.2 b 1 ≤ 99 := Nat.le_trans (so3 b (by omega) 1 (by omega)).2 m5
      refine w_M_areInside_15 _ _ ?_
      rw [q1, show zI (b : Int) + 1 = zI ((b + 1 : Nat) : Int) from zI_add b 1]
      refine ⟨fun c => ?_, fun _ => ⟨fun c => ?_, fun c => ?_⟩⟩
      · have := (zI_le (a := (s.2.1 : Int)) (b := (b : Int)) (by omega) (by omega)).mp c; omega
      · have c := (b2_0 _).mp c
        refine ih (b + 1) false (by omega) ⟨fun q => (by cases q), fun q => ?_⟩
        have := hz.mpr ⟨q.1, fun b' hb' => q.2 b' (by omega)⟩
        rw [c] at this; cases this
      · have c := b2_t c
        have hz' := hz.mp c
        have e0 : 3 * zI (b : Int) = zI ((3 * b : Nat) : Int) := by rw [show (3 : Int32) = zI 3 from by decide, zI_mul]; rfl
        have e1 : zI ((3 * b : Nat) : Int) + 1 = zI ((3 * b + 1 : Nat) : Int) := zI_add _ 1
        rw [e0, e1, zI_cN (by omega), zI_cN (by omega), q2 0 (by omega), q2 1 (by omega), k1, show 3 * b = 3 * b + 0 from rfl, k0, zI_lt (by omega) (by omega)]
        refine ⟨vp_N (by omega) (by omega), fun d => ?_, fun d => ⟨vp_N (by omega) (by omega), ?_⟩⟩
        · refine ih (b + 1) false (by omega) ⟨fun q => (by cases q), fun q => ?_⟩
          have := (q.2 b (by omega)).1; omega
        · have zz := zI_lt (a := (s.2.2.1 1 : Int)) (b := (s.2.2.2 b 1 : Int)) (by omega) (by omega)
          by_cases y : s.2.2.1 1 < s.2.2.2 b 1
          · rw [if_pos (zz.mpr (by omega))]
            refine ih (b + 1) false (by omega) ⟨fun q => (by cases q), fun q => ?_⟩
            have := (q.2 b (by omega)).2; omega
          · rw [if_neg (fun q => y (by have := zz.mp q; omega))]
            refine ih (b + 1) true (by omega) ⟨fun _ => ⟨hz'.1, fun b' hb' => ?_⟩, fun _ => rfl⟩
            by_cases w : b' = b
            · subst w; omega
            · exact hz'.2 b' (by omega)
  have e0 : ((if hm.1 0 19 ≤ 0 then 0 else 1) : Int32) = b2 (decide (0 < s.2.1)) := by
    rw [q1]
    have z := zI_le (a := (s.2.1 : Int)) (b := 0) (by omega) (by omega)
    rw [show zI 0 = (0 : Int32) from by decide] at z
    by_cases h0 : 0 < s.2.1
    · rw [if_neg (fun q => by have := z.mp q; omega), decide_eq_true h0]; rfl
    · rw [if_pos (z.mpr (by omega)), decide_eq_false h0]; rfl
  rw [e0]
  exact lp s.2.1 0 _ (by omega) ⟨fun h => ⟨by simpa using h, fun b' hb' => absurd hb' (Nat.not_lt_zero b')⟩, fun h => by simpa using h.1⟩
theorem fail_m {G : rx_Gh} {F : Int32 → rx_Hp → Prop} {e : Nat} (he : e ≤ 1000) (x : Int32) {h : rx_Hp} (hw : h.1 0 4 = zI e) (K : F (zI e) h) : Rn wM G 5 q_M_readHall 44 [some (.ref 0), some (.int x), some (.int 0), none] [] h (rI F) := by
  have nw : ¬ zI (e : Int) = -1 := by rw [show (-1 : Int32) = zI (-1) from by decide, zI_eq (by omega) (by omega)]; omega
  refine w_M_readHall_44 _ _ ⟨fun _ => ⟨fun c => absurd (hw ▸ c) nw, fun _ => ?_⟩, fun c => absurd rfl c⟩
  rw [hw]; exact K
theorem rh_m {G : rx_Gh} {F : Int32 → rx_Hp → Prop} (ok : TOk n tb) : ∀ (m p : Nat) (s : HS) (hm : rx_Hp), fuH s = m → okS s → p ≤ n → AtM n tb p hm → hm.1 0 4 = -1 → FM s hm → (∀ e h', pH n tb m p s = .inl e → Fr hmF [11, 12] hm h' → F (zI e) h') → (∀ s' h', pH n tb m p s = .inr s' → okS s' → whB s' = true → FM s' h' → Fr hmF [11, 12] hm h' → F (-1) h') → Rn wM G 5 q_M_readHall 44 [some (.ref 0), some (.int (b2 s.1)), some (.int 1), none] [] hm (rI F) := by
  have o1 := ok.1
  have l7 : ∀ k, k < 7 → lsL k ≤ lsU k ∧ lsU k ≤ lsM k := fun k hk => ⟨(ls_bd ⟨k, hk⟩).1, (ls_bd ⟨k, hk⟩).2.1⟩
  intro m
  -- a clause that is none
  have bad : ∀ (p : Nat) (x : Int32) (h5 hm : rx_Hp), p ≤ n → AtM n tb p h5 → h5.1 0 4 = -1 → Fr hmF [11, 12] hm h5 → (∀ h', Fr hmF [11, 12] hm h' → F (zI p) h') → (((g_M_bad h5).1 0 4) = (-1) → Ev wM G 2 q_M_look [.ref 0] (g_M_bad h5) (rI fun r11 h10 => Rn wM G 5 q_M_readHall 44 [some (.ref 0), some (.int x), some (.int ((if r11 = 59 then 1 else 0) : Int32)), none] [] (rx_pf h10 0 3 ((h10.1 0 3) + ((if ((if r11 = 59 then 1 else 0) : Int32) = 0 then 0 else 1) : Int32))) (rI F))) ∧ (¬ ((g_M_bad h5).1 0 4) = (-1) → Rn wM G 5 q_M_readHall 44 [some (.ref 0), some (.int x), some (.int 0), none] [] (rx_pf (g_M_bad h5) 0 3 (((g_M_bad h5).1 0 3) + 0)) (rI F)) := by
    intro p x h5 hm hp T hw fr K
    obtain ⟨b1, b2'⟩ := bad_m T hw
    have nw : ¬ zI (p : Int) = -1 := by rw [show (-1 : Int32) = zI (-1) from by decide, zI_eq (by omega) (by omega)]; omega
    refine ⟨fun c => absurd (b1 ▸ c) nw, fun _ => fail_m (e := p) (by omega) x (by rw [pf_ne _ _ (by decide)]; exact b1) (K _ ((fr.tr (b2'.mono (by decide) (by decide))).pf (by decide)))⟩
  -- behind a clause
  have tail : ∀ (m' p' : Nat) (s' : HS) (h hm : rx_Hp), fuH s' = m' → okS s' → p' ≤ n → AtM n tb p' h → h.1 0 4 = -1 → FM s' h → Fr hmF [11, 12] hm h → (∀ e h', (if chA n tb (sk n tb p') = 0 then (if whB s' = true then .inr s' else .inl n) else if chA n tb (sk n tb p') = 59 then pH n tb m' (sk n tb p' + 1) s' else .inl (sk n tb p') : Nat ⊕ HS) = .inl e → Fr hmF [11, 12] hm h' → F (zI e) h') → (∀ s'' h', (if chA n tb (sk n tb p') = 0 then (if whB s' = true then .inr s' else .inl n) else if chA n tb (sk n tb p') = 59 then pH n tb m' (sk n tb p' + 1) s' else .inl (sk n tb p') : Nat ⊕ HS) = .inr s'' → okS s'' → whB s'' = true → FM s'' h' → Fr hmF [11, 12] hm h' → F (-1) h') → (chA n tb (sk n tb p') = 59 → ∀ h9, AtM n tb (sk n tb p' + 1) h9 → h9.1 0 4 = -1 → FM s' h9 → Fr hmF [11, 12] hm h9 → Rn wM G 5 q_M_readHall 44 [some (.ref 0), some (.int (b2 s'.1)), some (.int 1), none] [] h9 (rI F)) → Ev wM G 2 q_M_look [.ref 0] h (rI fun r9 h8 => Rn wM G 5 q_M_readHall 44 [some (.ref 0), some (.int (b2 s'.1)), some (.int ((if r9 = 59 then 1 else 0) : Int32)), none] [] (rx_pf h8 0 3 ((h8.1 0 3) + ((if ((if r9 = 59 then 1 else 0) : Int32) = 0 then 0 else 1) : Int32))) (rI F)) := by
    intro m' p' s' h hm hf hs hp T hw S fr Kl Kr next
    have cl := chA_le ok (sk n tb p')
    have s2 := sk_le (tb := tb) hp
    refine look_m ok hp T (fun h8 T8 f8 => ?_)
    have fr8 : Fr hmF [11, 12] hm h8 := fr.tr (f8.mono (by decide) (by decide))
    have w8 : h8.1 0 4 = -1 := (f8.1 _ _ (by decide)).trans hw
    have S8 := S.fr f8
    have z59 : zM (chA n tb (sk n tb p')) = 59 ↔ chA n tb (sk n tb p') = 59 := zM_eq cl (k := 59) (by omega) (by omega)
    by_cases c : chA n tb (sk n tb p') = 59
    · rw [if_pos (z59.mpr c), if_neg (show ¬ (1 : Int32) = 0 by decide)]
      exact next c _ (T8.to (by rw [T8.2]; exact zI_add _ 1)) (by rw [pf_ne _ _ (by decide)]; exact w8) (S8.fr (Fr.rf.pf (by decide) : Fr [(0, 3)] [] h8 _)) (fr8.pf (by decide))
    · rw [if_neg (mt z59.mp c), if_pos rfl]
      have T9 : AtM n tb (sk n tb p') (rx_pf h8 0 3 (h8.1 0 3 + 0)) := T8.to (by rw [T8.2]; exact zI_add _ 0)
      have fr9 : Fr hmF [11, 12] hm (rx_pf h8 0 3 (h8.1 0 3 + 0)) := fr8.pf (by decide)
      have w9 : (rx_pf h8 0 3 (h8.1 0 3 + 0)).1 0 4 = -1 := by rw [pf_ne _ _ (by decide)]; exact w8
      have S9 : FM s' (rx_pf h8 0 3 (h8.1 0 3 + 0)) := S8.fr (Fr.rf.pf (by decide) : Fr [(0, 3)] [] h8 _)
      refine w_M_readHall_44 _ _ ⟨fun _ => ⟨fun _ => look_m ok s2 T9 (fun h1 T1 f1 => ?_), fun c => absurd w9 c⟩, fun c => absurd rfl c⟩
      have ss := sk_sk (tb := tb) hp
      rw [ss] at T1 ⊢
      have fr1 : Fr hmF [11, 12] hm h1 := fr9.tr (f1.mono (by decide) (by decide))
      have w1 : h1.1 0 4 = -1 := (f1.1 _ _ (by decide)).trans w9
      obtain ⟨b1, b2'⟩ := bad_m T1 w1
      rw [zM_m1 cl]
      refine ⟨fun d => ?_, fun d => ?_⟩
      · rw [if_pos d] at Kl Kr
        refine ins_m2 hs (S9.fr f1) ?_
        have eq : sk n tb p' = n := by have := (chA_0 ok).mp d; omega
        cases w : whB s' with
        | true =>
          rw [w, if_pos rfl] at Kr
          refine ⟨fun c => absurd c (by decide), fun _ => ?_⟩
          rw [w1]
          exact Kr s' h1 rfl hs w (S9.fr f1) fr1
        | false =>
          rw [w] at Kl
          refine ⟨fun _ => ?_, fun c => absurd rfl c⟩
          rw [b1, eq]
          exact Kl n _ rfl (fr1.tr (b2'.mono (by decide) (by decide)))
      · rw [if_neg d, if_neg c] at Kl
        rw [b1]
        exact Kl _ _ rfl (fr1.tr (b2'.mono (by decide) (by decide)))
  -- one clause, whatever comes of it
  have clause : ∀ (p : Nat) (s : HS) (hm : rx_Hp), okS s → p ≤ n → AtM n tb p hm → hm.1 0 4 = -1 → FM s hm → (∀ e h', pCl n tb p s = .inl e → Fr hmF [11, 12] hm h' → F (zI e) h') → (∀ p' s' h', pCl n tb p s = .inr (p', s') → okS s' → p' ≤ n → AtM n tb p' h' → h'.1 0 4 = -1 → FM s' h' → Fr hmF [11, 12] hm h' → Ev wM G 2 q_M_look [.ref 0] h' (rI fun r9 h8 => Rn wM G 5 q_M_readHall 44 [some (.ref 0), some (.int (b2 s'.1)), some (.int ((if r9 = 59 then 1 else 0) : Int32)), none] [] (rx_pf h8 0 3 ((h8.1 0 3) + ((if ((if r9 = 59 then 1 else 0) : Int32) = 0 then 0 else 1) : Int32))) (rI F))) → Rn wM G 5 q_M_readHall 44 [some (.ref 0), some (.int (b2 s.1)), some (.int 1), none] [] hm (rI F) := by
    intro p s hm hs hp T hw S Kl Kr
    have cl := chA_le ok (sk n tb p)
    have s2 := sk_le (tb := tb) hp
    obtain ⟨so1, so2, so3⟩ := hs
    refine w_M_readHall_44 _ _ ⟨fun c => absurd c (by decide), fun _ => ⟨fun _ => look_m ok hp T (fun h5 T5 f5 => ?_), fun c => absurd hw c⟩⟩
    have fr5 : Fr hmF [11, 12] hm h5 := f5.mono (by decide) (by decide)
    have w5 : h5.1 0 4 = -1 := (f5.1 _ _ (by decide)).trans hw
    have S5 := S.fr f5
    have z114 : zM (chA n tb (sk n tb p)) = 114 ↔ chA n tb (sk n tb p) = 114 := zM_eq cl (k := 114) (by omega) (by omega)
    have z98 : zM (chA n tb (sk n tb p)) = 98 ↔ chA n tb (sk n tb p) = 98 := zM_eq cl (k := 98) (by omega) (by omega)
    have h6 : 6 ≤ h5.1 0 19 ↔ 6 ≤ s.2.1 := by rw [S5.1, show (6 : Int32) = zI 6 from by decide, zI_le (by omega) (by omega)]; omega
    have T6 : AtM n tb (sk n tb p + 1) (rx_pf h5 0 3 (h5.1 0 3 + 1)) := T5.to (by rw [T5.2]; exact zI_add _ 1)
    have fr6 : Fr hmF [11, 12] hm (rx_pf h5 0 3 (h5.1 0 3 + 1)) := fr5.pf (by decide)
    have w6 : (rx_pf h5 0 3 (h5.1 0 3 + 1)).1 0 4 = -1 := by rw [pf_ne _ _ (by decide)]; exact w5
    have S6 : FM s (rx_pf h5 0 3 (h5.1 0 3 + 1)) := S5.fr (Fr.rf.pf (by decide) : Fr [(0, 3)] [] h5 _)
    have noneK : ¬ (chA n tb (sk n tb p) = 114 ∧ s.1 = false) → ¬ (chA n tb (sk n tb p) = 98 ∧ s.2.1 < 6) → ∀ h', Fr hmF [11, 12] hm h' → F (zI (sk n tb p)) h' := by
      intro y1 y2 h' f'
      refine Kl _ h' ?_ f'
      unfold pCl
      rw [if_neg y1, if_neg y2]
    have body : chA n tb (sk n tb p) = 98 → s.2.1 < 6 → Ev wM G 4 q_M_items [.ref 0, .int (zM (chA n tb (sk n tb p))), .ref 12, .int (3 * (h5.1 0 19)), .int 3] (rx_pf h5 0 3 ((h5.1 0 3) + 1)) (rV fun h12 => ((h12.1 0 4) = (-1) → Ev wM G 2 q_M_look [.ref 0] (rx_pf h12 0 19 ((h12.1 0 19) + 1)) (rI fun r14 h13 => Rn wM G 5 q_M_readHall 44 [some (.ref 0), some (.int (b2 s.1)), some (.int ((if r14 = 59 then 1 else 0) : Int32)), none] [] (rx_pf h13 0 3 ((h13.1 0 3) + ((if ((if r14 = 59 then 1 else 0) : Int32) = 0 then 0 else 1) : Int32))) (rI F))) ∧ (¬ (h12.1 0 4) = (-1) → Rn wM G 5 q_M_readHall 44 [some (.ref 0), some (.int (b2 s.1)), some (.int 0), none] [] (rx_pf (rx_pf h12 0 19 ((h12.1 0 19) + 1)) 0 3 ((h12.1 0 3) + 0)) (rI F))) := by
      intro hb hn6
      have hlt : sk n tb p < n := chA_lt hb (by omega)
      have eP : pCl n tb p s = (match pIt n tb 4 3 3 (sk n tb p + 1) 0 lsU with | .inl e => .inl e | .inr (p', v) => .inr (p', hsB s v)) := by
        unfold pCl
        rw [if_neg (fun z => by omega), if_pos ⟨hb, hn6⟩]
        cases pIt n tb 4 3 3 (sk n tb p + 1) 0 lsU <;> rfl
      rw [eP] at Kl Kr
      have ez : zM (chA n tb (sk n tb p)) = zI 98 := by rw [hb]; decide
      rw [ez, S5.1, show 3 * zI (s.2.1 : Int) = zI ((3 * s.2.1 : Nat) : Int) from by rw [show (3 : Int32) = zI 3 from by decide, zI_mul]; rfl, show (3 : Int32) = zI 3 from by decide]
      refine its_m12 ok (fr_ := 3 * s.2.1) (by omega) (by omega) T6 w6 (fun e h7 he w7 f7 => ?_) (fun p' u h7 he T7 w7 V7 B7 f7 => ?_)
      · have he0 := (pIt_bd (a := 4) (c := 3) 3 (sk n tb p + 1) 0 lsU (by omega) l7).1 e he
        have nw : ¬ zI (e : Int) = -1 := by rw [show (-1 : Int32) = zI (-1) from by decide, zI_eq (by omega) (by omega)]; omega
        rw [he] at Kl
        refine ⟨fun c => absurd (w7 ▸ c) nw, fun _ => fail_m (e := e) (by omega) _ (by rw [pf_ne _ _ (by decide), pf_ne _ _ (by decide)]; exact w7) (Kl e _ rfl ?_)⟩
        exact ((fr6.tr (f7.mono (by decide) (by decide))).pf (by decide)).pf (by decide)
      · obtain ⟨c1, c2, c3⟩ := (pIt_bd (a := 4) (c := 3) 3 (sk n tb p + 1) 0 lsU (by omega) l7).2 p' u he
        rw [he] at Kr
        have n7 : h7.1 0 19 = zI (s.2.1 : Nat) := by rw [f7.1 _ _ (by decide)]; exact S6.1
        refine ⟨fun _ => ?_, fun c => absurd w7 c⟩
        refine Kr p' (hsB s u) _ rfl ⟨by show s.2.1 + 1 ≤ 6; omega, so2, fun b hb k hk => ?_⟩ c2 (T7.fr (Fr.rf.pf (by decide) : Fr [(0, 19)] [] h7 _)) (by rw [pf_ne _ _ (by decide)]; exact w7) ⟨?_, fun k hk => ?_, fun b hb k hk => ?_⟩ ((fr6.tr (f7.mono (by decide) (by decide))).pf (by decide))
        · have hb : b < s.2.1 + 1 := hb
          show lsL (4 + k) ≤ (if b = s.2.1 then (fun k => u (4 + k)) else s.2.2.2 b) k ∧ (if b = s.2.1 then (fun k => u (4 + k)) else s.2.2.2 b) k ≤ lsM (4 + k)
          by_cases z : b = s.2.1
          · rw [if_pos z]; exact c3 (4 + k) (by omega)
          · rw [if_neg z]; exact so3 b (by omega) k hk
        · rw [pf_same, n7]; exact zI_add _ 1
        · rw [pf_a, f7.2.1 11 (by decide)]; exact S6.2.1 k hk
        · have hb : b < s.2.1 + 1 := hb
          show _ = zI (((if b = s.2.1 then (fun k => u (4 + k)) else s.2.2.2 b) k : Nat) : Int)
          rw [pf_a]
          by_cases z : b = s.2.1
          · subst z; rw [if_pos rfl]; exact V7 k hk
          · rw [if_neg z, B7 _ (by omega)]; exact S6.2.2 b (by omega) k hk
    refine ⟨fun c => ⟨fun d => ?_, fun d => ⟨fun c2 => ?_, fun c2 => ?_⟩⟩, fun c => ⟨fun c2 => ⟨fun d => ?_, fun d => ?_⟩, fun c2 => ?_⟩⟩
    · have c' := z114.mp c
      have hs1 := (b2_0 _).mp d
      have hlt : sk n tb p < n := chA_lt c' (by omega)
      have eP : pCl n tb p s = (match pIt n tb 0 4 4 (sk n tb p + 1) 0 lsU with | .inl e => .inl e | .inr (p', v) => .inr (p', hsR s v)) := by
        unfold pCl
        rw [if_pos ⟨c', hs1⟩]
        cases pIt n tb 0 4 4 (sk n tb p + 1) 0 lsU <;> rfl
      rw [eP] at Kl Kr
      have ez : zM (chA n tb (sk n tb p)) = zI 114 := by rw [c']; decide
      rw [ez, show (0 : Int32) = zI ((0 : Nat) : Int) from by decide, show (4 : Int32) = zI 4 from by decide]
      refine its_m11 ok (fr_ := 0) (by omega) (by omega) T6 w6 (fun e h7 he w7 f7 => ?_) (fun p' u h7 he T7 w7 V7 B7 f7 => ?_)
      · have he0 := (pIt_bd (a := 0) (c := 4) 4 (sk n tb p + 1) 0 lsU (by omega) l7).1 e he
        have nw : ¬ zI (e : Int) = -1 := by rw [show (-1 : Int32) = zI (-1) from by decide, zI_eq (by omega) (by omega)]; omega
        rw [he] at Kl
        refine ⟨fun c => absurd (w7 ▸ c) nw, fun _ => ?_⟩
        rw [show zI ((0 : Nat) : Int) = (0 : Int32) from by decide]
        refine fail_m (e := e) (by omega) _ (by rw [pf_ne _ _ (by decide)]; exact w7) (Kl e _ rfl ?_)
        exact (fr6.tr (f7.mono (by decide) (by decide))).pf (by decide)
      · obtain ⟨c1, c2, c3⟩ := (pIt_bd (a := 0) (c := 4) 4 (sk n tb p + 1) 0 lsU (by omega) l7).2 p' u he
        rw [he] at Kr
        refine ⟨fun _ => ?_, fun c => absurd w7 c⟩
        rw [show zI ((0 : Nat) : Int) = (0 : Int32) from by decide]
        refine Kr p' (hsR s u) _ rfl ⟨so1, fun k hk => c3 k (by omega), so3⟩ c2 T7 w7 ⟨?_, fun k hk => ?_, fun b hb k hk => ?_⟩ (fr6.tr (f7.mono (by decide) (by decide)))
        · rw [f7.1 _ _ (by decide)]; exact S6.1
        · have := V7 k hk
          rw [Nat.zero_add] at this; exact this
        · rw [f7.2.1 12 (by decide)]; exact S6.2.2 b hb k hk
    · have := z114.mp c; have := z98.mp c2; omega
    · exact bad (sk n tb p) (b2 s.1) h5 hm s2 T5 w5 fr5 (noneK (fun z => d (by rw [z.2]; rfl)) (fun z => c2 (z98.mpr z.1)))
    · exact bad (sk n tb p) (b2 s.1) h5 hm s2 T5 w5 fr5 (noneK (fun z => c (z114.mpr z.1)) (fun z => by have := h6.mp d; omega))
    · exact body (z98.mp c2) (by have := mtn h6 d; omega)
    · exact bad (sk n tb p) (b2 s.1) h5 hm s2 T5 w5 fr5 (noneK (fun z => c (z114.mpr z.1)) (fun z => c2 (z98.mpr z.1)))
  induction m with
  | zero =>
    intro p s hm hf hs hp T hw S Kl Kr
    have eP : pCl n tb p s = .inl (sk n tb p) := by
      unfold fuH at hf
      have h1 : s.1 = true := by
        cases z : s.1 with
        | true => rfl
        | false => rw [z] at hf; simp at hf
      have h2 : ¬ s.2.1 < 6 := by omega
      unfold pCl
      rw [if_neg (by rw [h1]; simp), if_neg (fun z => h2 z.2)]
    refine clause p s hm hs hp T hw S (fun e h' he f' => ?_) (fun p' s' h' he => ?_)
    · rw [eP] at he
      cases he
      exact Kl _ h' (by unfold pH; rfl) f'
    · rw [eP] at he; cases he
  | succ m ih =>
    intro p s hm hf hs hp T hw S Kl Kr
    have eP : pH n tb (m + 1) p s = (match pCl n tb p s with | .inl e => .inl e | .inr (p', s') => if chA n tb (sk n tb p') = 0 then (if whB s' = true then .inr s' else .inl n) else if chA n tb (sk n tb p') = 59 then pH n tb m (sk n tb p' + 1) s' else .inl (sk n tb p')) := by
      conv => lhs; unfold pH
      cases pCl n tb p s <;> rfl
    rw [eP] at Kl Kr
    refine clause p s hm hs hp T hw S (fun e h' he f' => ?_) (fun p' s' h' he hs' hp' T' w' S' f' => ?_)
    · rw [he] at Kl
      exact Kl e h' rfl f'
    · rw [he] at Kl Kr
      simp only at Kl Kr
      have hfu := pCl_fu he
      refine tail m p' s' h' hm (by omega) hs' hp' T' w' S' f' Kl Kr (fun d h9 T9 w9 S9 f9 => ?_)
      have hc0 : ¬ chA n tb (sk n tb p') = 0 := by omega
      rw [if_neg hc0, if_pos d] at Kl Kr
      have hlt := chA_lt d (by omega)
      exact ih (sk n tb p' + 1) s' h9 (by omega) hs' (by omega) T9 w9 S9 (fun e h'' he' f'' => Kl e h'' he' (f9.tr f'')) (fun s'' h'' he' a b c f'' => Kr s'' h'' he' a b c (f9.tr f''))
theorem read_hm {G : rx_Gh} {F : Int32 → rx_Hp → Prop} (ok : TOk n tb) {hm : rx_Hp} (T : TM n tb hm) (Kl : ∀ e h', pHall n tb = .inl e → Fr hmF [11, 12] hm h' → F (zI e) h') (Kr : ∀ s h', pHall n tb = .inr s → okS s → whB s = true → FM s h' → Fr hmF [11, 12] hm h' → F (-1) h') : Ev wM G 5 q_M_readHall [.ref 0] hm (rI F) := by
  refine w_M_readHall ?_
  have fr : Fr hmF [11, 12] hm (rx_pf (rx_pf (rx_pf hm 0 3 0) 0 4 (-1)) 0 19 0) := ((Fr.rf.pf (by decide)).pf (by decide)).pf (by decide)
  have lp : ∀ (m j : Nat) (hx : rx_Hp), j + m = 4 → AtM n tb 0 hx → hx.1 0 4 = -1 → hx.1 0 19 = 0 → Fr hmF [11, 12] hm hx → (∀ i, i < j → hx.2.1 11 i = zI (lsU i : Nat)) → Rn wM G 5 q_M_readHall 17 [some (.ref 0), some (.int (zI j)), none, none] [] hx (rI F) := by
    intro m
    induction m with
    | zero =>
      intro j hx hj T hw hb fr V
      have hcn : 4 ≤ zI (j : Int) := by rw [show (4 : Int32) = zI 4 from by decide, zI_le (by omega) (by omega)]; omega
      refine w_M_readHall_17 _ ⟨fun _ => ?_, fun c => absurd hcn c⟩
      exact rh_m ok 7 0 hs0 hx (by decide) hs0_ok (by omega) T hw ⟨hb, fun k hk => V k (by omega), fun b hb => absurd hb (Nat.not_lt_zero b)⟩ (fun e h' he f' => Kl e h' he (fr.tr f')) (fun s h' he a b c f' => Kr s h' he a b c (fr.tr f'))
    | succ m ih =>
      intro j hx hj T hw hb fr V
      have hcn : ¬ 4 ≤ zI (j : Int) := by rw [show (4 : Int32) = zI 4 from by decide, zI_le (by omega) (by omega)]; omega
      have u := us_r ⟨j, by omega⟩
      simp only [Nat.zero_add] at u
      rw [show zI 114 = (114 : Int32) from by decide] at u
      refine w_M_readHall_17 _ ⟨fun c => absurd c hcn, fun _ => ⟨vp_N (by omega) (by omega), ?_⟩⟩
      rw [u, zI_cN (by omega), show zI (j : Int) + 1 = zI ((j + 1 : Nat) : Int) from zI_add j 1]
      refine ih (j + 1) _ (by omega) (T.fr (Fr.rf.pa (by decide) : Fr [] [11] hx _)) hw hb (fr.pa (by decide)) (fun i hi => ?_)
      by_cases q : i = j
      · subst q; rw [pa_same]
      · rw [pa_ne _ _ (by simp; omega)]; exact V i (by omega)
  refine lp 4 0 _ (by omega) ⟨T.fr fr, ?_⟩ ?_ ?_ fr (fun i hi => absurd hi (Nat.not_lt_zero i))
  · rw [pf_ne _ _ (by decide), pf_ne _ _ (by decide), pf_same]; decide
  · rw [pf_ne _ _ (by decide), pf_same]
  · rw [pf_same]
end HLN

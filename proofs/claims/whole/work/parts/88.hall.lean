/-! a hall as a text: the class's reader, its clauses, the whole -/
section HLD
variable {n : Nat} {tb : Nat → Nat}
def hrF : List (Nat × Nat) := [(1, 2), (10, 4), (10, 5), (10, 6), (10, 7), (10, 8), (8, 3)]
def hrA : List Nat := [9, 11, 12, 13]
def okS (s : HS) : Prop := s.2.1 ≤ 6 ∧ (∀ k, k < 4 → lsL k ≤ s.2.2.1 k ∧ s.2.2.1 k ≤ lsM k) ∧ ∀ b, b < s.2.1 → ∀ k, k < 3 → lsL (4 + k) ≤ s.2.2.2 b k ∧ s.2.2.2 b k ≤ lsM (4 + k)
def FC (s : HS) (hc : rx_Hp) : Prop := (hc.1 10 4 = zI (s.2.1 : Nat) ∧ hc.1 8 3 = b2 s.1) ∧ (hc.1 10 5 = zI (s.2.2.1 0 : Nat) ∧ hc.1 10 6 = zI (s.2.2.1 1 : Nat) ∧ hc.1 10 7 = zI (s.2.2.1 2 : Nat) ∧ hc.1 10 8 = zI (s.2.2.1 3 : Nat)) ∧ ∀ b, b < s.2.1 → hc.2.1 11 b = zI (s.2.2.2 b 0 : Nat) ∧ hc.2.1 12 b = zI (s.2.2.2 b 1 : Nat) ∧ hc.2.1 13 b = zI (s.2.2.2 b 2 : Nat)
theorem FC.fr {s : HS} {a b : rx_Hp} {fs : List (Nat × Nat)} {as : List Nat} (h : FC s a) (f : Fr fs as a b) (h1 : (10, 4) ∉ fs ∧ (8, 3) ∉ fs ∧ (10, 5) ∉ fs ∧ (10, 6) ∉ fs ∧ (10, 7) ∉ fs ∧ (10, 8) ∉ fs := by decide) (h2 : 11 ∉ as ∧ 12 ∉ as ∧ 13 ∉ as := by decide) : FC s b := by
  obtain ⟨⟨q1, q2⟩, ⟨q3, q4, q5, q6⟩, q7⟩ := h
  refine ⟨⟨(f.1 _ _ h1.1).trans q1, (f.1 _ _ h1.2.1).trans q2⟩, ⟨(f.1 _ _ h1.2.2.1).trans q3, (f.1 _ _ h1.2.2.2.1).trans q4, (f.1 _ _ h1.2.2.2.2.1).trans q5, (f.1 _ _ h1.2.2.2.2.2).trans q6⟩, fun b hb => ?_⟩
  rw [f.2.1 11 h2.1, f.2.1 12 h2.2.1, f.2.1 13 h2.2.2]; exact q7 b hb
theorem rit_c {G : rx_Gh} {F : Int32 → rx_Hp → Prop} (ok : TOk n tb) {a c : Nat} (ho : acO a c) {p : Nat} {hc : rx_Hp} (hp : p ≤ n) (T : AtC n tb p hc) (Kl : ∀ e h', pIt n tb a c c p 0 lsU = .inl e → AtC n tb e h' → Fr [(1, 2)] [9] hc h' → F 0 h') (Kr : ∀ p' u h', pIt n tb a c c p 0 lsU = .inr (p', u) → AtC n tb p' h' → V9 a c u h' → Fr [(1, 2)] [9] hc h' → F 1 h') : Ev wC G 8 q_HR_readItems [.ref 8, .int (zI a), .int (zI ((a + c : Nat) : Int))] hc (rI F) := by
  have oac : a + c ≤ 7 ∧ c ≤ 4 := by rcases ho with ⟨rfl, rfl⟩ | ⟨rfl, rfl⟩ <;> omega
  have b0 : bc7 a c 0 = 0 := by rcases ho with ⟨rfl, rfl⟩ | ⟨rfl, rfl⟩ <;> decide
  refine w_HR_readItems _ _ ?_
  have lp : ∀ (m j : Nat) (hx : rx_Hp), j + m = a + c → a ≤ j → AtC n tb p hx → Fr [(1, 2)] [9] hc hx → (∀ k, a ≤ k → k < j → hx.2.1 9 k = zI (lsU k : Nat)) → Rn wC G 8 q_HR_readItems 5 [some (.ref 8), some (.int (zI a)), some (.int (zI ((a + c : Nat) : Int))), some (.int 0), some (.int (zI j)), none, none] [] hx (rI F) := by
    intro m
    induction m with
    | zero =>
      intro j hx hj hl T fr V
      have hcn : zI ((a + c : Nat) : Int) ≤ zI (j : Int) := by rw [zI_le (by omega) (by omega)]; omega
      refine w_HR_readItems_5 _ _ _ _ ⟨fun _ => ?_, fun c => absurd hcn c⟩
      exact ri_c ok ho c 0 p 0 lsU hx (by omega) hp (by omega) (by omega) T (fun k k1 k2 => V k k1 (by omega)) (fun e h' he T' f' => Kl e h' he T' (fr.tr f')) (fun p' u h' he T' V' f' => Kr p' u h' he T' V' (fr.tr f'))
    | succ m ih =>
      intro j hx hj hl T fr V
      have hcn : ¬ zI ((a + c : Nat) : Int) ≤ zI (j : Int) := by rw [zI_le (by omega) (by omega)]; omega
      have l1 := (ls_ok ⟨j, by omega⟩).1
      simp only at l1
      refine w_HR_readItems_5 _ _ _ _ ⟨fun c => absurd c hcn, fun _ => ⟨vp_N (by omega) (by omega), ?_⟩⟩
      rw [zI_cN (by omega), l1, show zI (j : Int) + 1 = zI ((j + 1 : Nat) : Int) from zI_add j 1]
      refine ih (j + 1) _ (by omega) (by omega) (T.fr (Fr.rf.pa (by decide) : Fr [] [9] hx _)) (fr.pa (by decide)) (fun k k1 k2 => ?_)
      by_cases q : k = j
      · subst q; rw [pa_same]
      · rw [pa_ne _ _ (by simp [q])]; exact V k k1 (by omega)
  exact lp c a hc rfl (Nat.le_refl _) T Fr.rf (fun k k1 k2 => by omega)
theorem rcl_c {G : rx_Gh} {F : Int32 → rx_Hp → Prop} (ok : TOk n tb) {p : Nat} {s : HS} {hc : rx_Hp} (hs : okS s) (hp : p ≤ n) (T : AtC n tb p hc) (S : FC s hc) (Kl : ∀ e h', pCl n tb p s = .inl e → AtC n tb e h' → Fr hrF hrA hc h' → F 0 h') (Kr : ∀ p' s' h', pCl n tb p s = .inr (p', s') → p' ≤ n → okS s' → AtC n tb p' h' → FC s' h' → Fr hrF hrA hc h' → F 1 h') : Ev wC G 10 q_HR_readClause [.ref 8] hc (rI F) := by
  have o1 := ok.1
  have cl := chA_le ok (sk n tb p)
  have s2 := sk_le (tb := tb) hp
  obtain ⟨so1, so2, so3⟩ := hs
  have l7 : ∀ k, k < 7 → lsL k ≤ lsU k ∧ lsU k ≤ lsM k := fun k hk => ⟨(ls_bd ⟨k, hk⟩).1, (ls_bd ⟨k, hk⟩).2.1⟩
  refine w_HR_readClause (look_c ok hp T (fun h1 T1 f1 => ?_))
  have S1 := S.fr f1
  have fr1 : Fr hrF hrA hc h1 := f1.mono (by decide) (by decide)
  obtain ⟨⟨q1, q2⟩, q3, q7⟩ := S1
  rw [q1, q2, show (114 : Int32) = zI 114 from by decide, show (98 : Int32) = zI 98 from by decide, show (6 : Int32) = zI 6 from by decide, zI_eq (by omega) (by omega), zI_eq (by omega) (by omega), zI_le (by omega) (by omega)]
  have T2 : AtC n tb (sk n tb p + 1) (rx_pf h1 1 2 (h1.1 1 2 + 1)) := T1.to (by rw [T1.2]; exact zI_add _ 1)
  -- a body
  have body : chA n tb (sk n tb p) = 98 → s.2.1 < 6 → Ev wC G 9 q_HR_readBody [.ref 8] (rx_pf h1 1 2 (h1.1 1 2 + 1)) (rI fun r h => (r = 0 ∨ r = 1) ∧ F r h) := by
    intro hb h6
    have hlt : sk n tb p < n := chA_lt hb (by omega)
    have eP : pCl n tb p s = (match pIt n tb 4 3 3 (sk n tb p + 1) 0 lsU with | .inl e => .inl e | .inr (p', v) => .inr (p', hsB s v)) := by
      unfold pCl
      rw [if_neg (fun z => by omega), if_pos ⟨hb, h6⟩]
      cases pIt n tb 4 3 3 (sk n tb p + 1) 0 lsU <;> rfl
    rw [eP] at Kl Kr
    have fr2 : Fr hrF hrA hc (rx_pf h1 1 2 (h1.1 1 2 + 1)) := fr1.pf (by decide)
    refine w_HR_readBody ?_
    have R := rit_c (G := G) (F := fun r2 h3 => (r2 = 0 → ((0 : Int32) = 0 ∨ (0 : Int32) = 1) ∧ F 0 h3) ∧ (¬ r2 = 0 → vp_in (h3.1 10 4) 6 ∧ (((1 : Int32) = 0 ∨ (1 : Int32) = 1) ∧ F 1 (rx_pf (rx_pa (rx_pa (rx_pa h3 11 ((h3.1 10 4).toNatClampNeg) (h3.2.1 9 4)) 12 ((h3.1 10 4).toNatClampNeg) (h3.2.1 9 5)) 13 ((h3.1 10 4).toNatClampNeg) (h3.2.1 9 6)) 10 4 ((h3.1 10 4) + 1))))) ok (a := 4) (c := 3) (Or.inr ⟨rfl, rfl⟩) (p := sk n tb p + 1) (by omega) T2 (fun e h3 he T3 f3 => ?_) (fun p' u h3 he T3 V3 f3 => ?_)
    · rw [show zI ((4 : Nat) : Int) = (4 : Int32) from by decide, show zI ((4 + 3 : Nat) : Int) = (7 : Int32) from by decide] at R
      exact R
    · rw [he] at Kl
      exact ⟨fun _ => ⟨Or.inl rfl, Kl e h3 rfl T3 (fr2.tr (f3.mono (by decide) (by decide)))⟩, fun c => absurd rfl c⟩
    · rw [he] at Kr
      obtain ⟨c1, c2, c3⟩ := (pIt_bd (a := 4) (c := 3) 3 (sk n tb p + 1) 0 lsU (by omega) l7).2 p' u he
      have e4 : h3.1 10 4 = zI (s.2.1 : Nat) := by rw [f3.1 _ _ (by decide), pf_ne _ _ (by decide), q1]
      refine ⟨fun c => absurd c (by decide), fun _ => ⟨by rw [e4]; exact vp_N (by omega) (by omega), Or.inr rfl, ?_⟩⟩
      rw [e4, zI_cN (by omega), V3 4 (by omega) (by omega), V3 5 (by omega) (by omega), V3 6 (by omega) (by omega), show zI (s.2.1 : Int) + 1 = zI ((s.2.1 + 1 : Nat) : Int) from zI_add _ 1]
      have fr4 : Fr [(10, 4)] [11, 12, 13] h3 (rx_pf (rx_pa (rx_pa (rx_pa h3 11 s.2.1 (zI (u 4 : Nat))) 12 s.2.1 (zI (u 5 : Nat))) 13 s.2.1 (zI (u 6 : Nat))) 10 4 (zI ((s.2.1 + 1 : Nat) : Int))) := (((Fr.rf.pa (by decide)).pa (by decide)).pa (by decide)).pf (by decide)
      refine Kr p' (hsB s u) _ rfl c2 ⟨by show s.2.1 + 1 ≤ 6; omega, so2, fun b hb k hk => ?_⟩ (T3.fr fr4) ⟨⟨?_, ?_⟩, ⟨?_, ?_, ?_, ?_⟩, fun b hb => ?_⟩ (fr2.tr ((f3.mono (by decide) (by decide)).tr (fr4.mono (by decide) (by decide))))
      · have hb : b < s.2.1 + 1 := hb
        show lsL (4 + k) ≤ (if b = s.2.1 then (fun k => u (4 + k)) else s.2.2.2 b) k ∧ (if b = s.2.1 then (fun k => u (4 + k)) else s.2.2.2 b) k ≤ lsM (4 + k)
        by_cases z : b = s.2.1
        · rw [if_pos z]; exact c3 (4 + k) (by omega)
        · rw [if_neg z]; exact so3 b (by omega) k hk
      · rw [pf_same]; rfl
      · rw [pf_ne _ _ (by decide), pa_f, pa_f, pa_f, f3.1 _ _ (by decide), pf_ne _ _ (by decide), q2]; rfl
      · rw [pf_ne _ _ (by decide), pa_f, pa_f, pa_f, f3.1 _ _ (by decide), pf_ne _ _ (by decide), q3.1]; rfl
      · rw [pf_ne _ _ (by decide), pa_f, pa_f, pa_f, f3.1 _ _ (by decide), pf_ne _ _ (by decide), q3.2.1]; rfl
      · rw [pf_ne _ _ (by decide), pa_f, pa_f, pa_f, f3.1 _ _ (by decide), pf_ne _ _ (by decide), q3.2.2.1]; rfl
      · rw [pf_ne _ _ (by decide), pa_f, pa_f, pa_f, f3.1 _ _ (by decide), pf_ne _ _ (by decide), q3.2.2.2]; rfl
      · have hb : b < s.2.1 + 1 := hb
        show _ = zI (((if b = s.2.1 then (fun k => u (4 + k)) else s.2.2.2 b) 0 : Nat) : Int) ∧ _ = zI (((if b = s.2.1 then (fun k => u (4 + k)) else s.2.2.2 b) 1 : Nat) : Int) ∧ _ = zI (((if b = s.2.1 then (fun k => u (4 + k)) else s.2.2.2 b) 2 : Nat) : Int)
        rw [pf_a]
        by_cases z : b = s.2.1
        · subst z
          rw [if_pos rfl, pa_ne _ _ (by simp), pa_ne _ _ (by simp), pa_same, pa_ne _ _ (by simp), pa_same, pa_same]
          exact ⟨rfl, rfl, rfl⟩
        · rw [if_neg z, pa_ne _ _ (by simp), pa_ne _ _ (by simp), pa_ne _ _ (by simp [z]), pa_ne _ _ (by simp), pa_ne _ _ (by simp [z]), pa_ne _ _ (by simp), pa_ne _ _ (by simp [z]), pa_ne _ _ (by simp), pa_ne _ _ (by simp), f3.2.1 11 (by decide), f3.2.1 12 (by decide), f3.2.1 13 (by decide)]
          exact q7 b (by omega)
  have none_ : ¬ (chA n tb (sk n tb p) = 114 ∧ s.1 = false) → ¬ (chA n tb (sk n tb p) = 98 ∧ s.2.1 < 6) → F 0 h1 := by
    intro z1 z2
    refine Kl (sk n tb p) h1 ?_ T1 fr1
    unfold pCl
    rw [if_neg z1, if_neg z2]
  refine ⟨fun c => ⟨fun d => ?_, fun d => ⟨fun c2 => absurd c2 (by omega), fun c2 => none_ (fun z => d (by rw [z.2]; rfl)) (fun z => by omega)⟩⟩, fun c => ⟨fun c2 => ⟨fun d => none_ (fun z => by omega) (fun z => by omega), fun d => body (by omega) (by omega)⟩, fun c2 => none_ (fun z => by omega) (fun z => by omega)⟩⟩
  -- the room
  have hs1 := (b2_0 _).mp d
  have c' : chA n tb (sk n tb p) = 114 := by omega
  have hlt : sk n tb p < n := chA_lt c' (by omega)
  have eP : pCl n tb p s = (match pIt n tb 0 4 4 (sk n tb p + 1) 0 lsU with | .inl e => .inl e | .inr (p', v) => .inr (p', hsR s v)) := by
    unfold pCl
    rw [if_pos ⟨c', hs1⟩]
    cases pIt n tb 0 4 4 (sk n tb p + 1) 0 lsU <;> rfl
  rw [eP] at Kl Kr
  have fr2 : Fr hrF hrA hc (rx_pf (rx_pf h1 1 2 (h1.1 1 2 + 1)) 8 3 1) := (fr1.pf (by decide)).pf (by decide)
  have T2' : AtC n tb (sk n tb p + 1) (rx_pf (rx_pf h1 1 2 (h1.1 1 2 + 1)) 8 3 1) := T2.fr (Fr.rf.pf (by decide) : Fr [(8, 3)] [] _ _)
  refine w_HR_readRoom ?_
  have R := rit_c (G := G) (F := fun r2 h3 => (r2 = 0 → ((0 : Int32) = 0 ∨ (0 : Int32) = 1) ∧ F 0 h3) ∧ (¬ r2 = 0 → ((1 : Int32) = 0 ∨ (1 : Int32) = 1) ∧ F 1 (rx_pf (rx_pf (rx_pf (rx_pf h3 10 5 (h3.2.1 9 0)) 10 6 (h3.2.1 9 1)) 10 7 (h3.2.1 9 2)) 10 8 (h3.2.1 9 3)))) ok (a := 0) (c := 4) (Or.inl ⟨rfl, rfl⟩) (p := sk n tb p + 1) (by omega) T2' (fun e h3 he T3 f3 => ?_) (fun p' u h3 he T3 V3 f3 => ?_)
  · rw [show zI ((0 : Nat) : Int) = (0 : Int32) from by decide, show zI ((0 + 4 : Nat) : Int) = (4 : Int32) from by decide] at R
    exact R
  · rw [he] at Kl
    exact ⟨fun _ => ⟨Or.inl rfl, Kl e h3 rfl T3 (fr2.tr (f3.mono (by decide) (by decide)))⟩, fun c => absurd rfl c⟩
  · rw [he] at Kr
    obtain ⟨c1, c2, c3⟩ := (pIt_bd (a := 0) (c := 4) 4 (sk n tb p + 1) 0 lsU (by omega) l7).2 p' u he
    refine ⟨fun c => absurd c (by decide), fun _ => ⟨Or.inr rfl, ?_⟩⟩
    rw [V3 0 (by omega) (by omega), V3 1 (by omega) (by omega), V3 2 (by omega) (by omega), V3 3 (by omega) (by omega)]
    have fr4 : Fr [(10, 5), (10, 6), (10, 7), (10, 8)] [] h3 (rx_pf (rx_pf (rx_pf (rx_pf h3 10 5 (zI (u 0 : Nat))) 10 6 (zI (u 1 : Nat))) 10 7 (zI (u 2 : Nat))) 10 8 (zI (u 3 : Nat))) := (((Fr.rf.pf (by decide)).pf (by decide)).pf (by decide)).pf (by decide)
    refine Kr p' (hsR s u) _ rfl c2 ⟨so1, fun k hk => c3 k (by omega), so3⟩ (T3.fr fr4) ⟨⟨?_, ?_⟩, ⟨?_, ?_, ?_, ?_⟩, fun b hb => ?_⟩ (fr2.tr ((f3.mono (by decide) (by decide)).tr (fr4.mono (by decide) (by decide))))
    · rw [fr4.1 _ _ (by decide), f3.1 _ _ (by decide), pf_ne _ _ (by decide), pf_ne _ _ (by decide), q1]; rfl
    · rw [fr4.1 _ _ (by decide), f3.1 _ _ (by decide), pf_same]; rfl
    · rw [pf_ne _ _ (by decide), pf_ne _ _ (by decide), pf_ne _ _ (by decide), pf_same]; rfl
    · rw [pf_ne _ _ (by decide), pf_ne _ _ (by decide), pf_same]; rfl
    · rw [pf_ne _ _ (by decide), pf_same]; rfl
    · rw [pf_same]; rfl
    · rw [fr4.2.1 11 (by decide), fr4.2.1 12 (by decide), fr4.2.1 13 (by decide), f3.2.1 11 (by decide), f3.2.1 12 (by decide), f3.2.1 13 (by decide)]
      exact q7 b hb
theorem lsM_20 : ∀ k : Fin 7, lsM k ≤ 99 ∧ lsL k ≤ lsM k := by decide
theorem whA {s : HS} : whB s = true ↔ 0 < s.2.1 ∧ ∀ b, b < s.2.1 → s.2.2.2 b 0 ≤ s.2.2.1 0 ∧ s.2.2.2 b 1 ≤ s.2.2.1 1 := by
  unfold whB
  simp only [Bool.and_eq_true, decide_eq_true_eq, List.all_eq_true, List.mem_range]
theorem wh_c {G : rx_Gh} {F : Int32 → rx_Hp → Prop} {s : HS} {hc : rx_Hp} (hs : okS s) (S : FC s hc) (K : F (b2 (whB s)) hc) : Ev wC G 2 q_HR_isWhole [.ref 8] hc (rI F) := by
  obtain ⟨so1, so2, so3⟩ := hs
  obtain ⟨⟨q1, q2⟩, q3, q7⟩ := S
  have r0 := so2 0 (by omega)
  have r1 := so2 1 (by omega)
  have m0 := (lsM_20 0).1
  have m1 := (lsM_20 1).1
  have m4 := (lsM_20 4).1
  have m5 := (lsM_20 5).1
  simp only [Fin.val_zero] at m0
  refine w_HR_isWhole ?_
  have lp : ∀ (m b : Nat), b + m = s.2.1 → (∀ b', b' < b → s.2.2.2 b' 0 ≤ s.2.2.1 0 ∧ s.2.2.2 b' 1 ≤ s.2.2.1 1) → Rn wC G 2 q_HR_isWhole 2 [some (.ref 8), some (.int (zI b))] [] hc (rI F) := by
    intro m
    induction m with
    | zero =>
      intro b hb I
      refine w_HR_isWhole_2 _ ?_
      rw [q1]
      refine ⟨fun _ => ?_, fun c => absurd ((zI_le (by omega) (by omega)).mpr (by omega)) c⟩
      have e1 : f_Ha_stands_10 hc = b2 (whB s) := by
        unfold f_Ha_stands_10
        rw [q1]
        have z := zI_le (a := (s.2.1 : Int)) (b := 0) (by omega) (by omega)
        rw [show zI 0 = (0 : Int32) from by decide] at z
        by_cases h0 : 0 < s.2.1
        · rw [if_neg (fun q => by have := z.mp q; omega), whA.mpr ⟨h0, fun b' hb' => I b' (by omega)⟩]; rfl
        · rw [if_pos (z.mpr (by omega))]
          have : whB s = false := by
            cases w : whB s with
            | false => rfl
            | true => exact absurd (whA.mp w).1 h0
          rw [this]; rfl
      rw [e1]; exact K
    | succ m ih =>
      intro b hb I
      have b1 := q7 b (by omega)
      have k0 := so3 b (by omega) 0 (by omega)
      have k1 := so3 b (by omega) 1 (by omega)
      have k0' : s.2.2.2 b 0 ≤ 99 := Nat.le_trans k0.2 m4
      have k1' : s.2.2.2 b 1 ≤ 99 := Nat.le_trans k1.2 m5
      have r0' : s.2.2.1 0 ≤ 99 := Nat.le_trans r0.2 m0
      have r1' : s.2.2.1 1 ≤ 99 := Nat.le_trans r1.2 m1
      refine w_HR_isWhole_2 _ ?_
      rw [q1]
      refine ⟨fun c => ?_, fun _ => ⟨vp_N (by omega) (by omega), ?_⟩⟩
      · have := (zI_le (a := (s.2.1 : Int)) (b := (b : Int)) (by omega) (by omega)).mp c; omega
      · rw [zI_cN (by omega), b1.1, b1.2.1, show zI (b : Int) + 1 = zI ((b + 1 : Nat) : Int) from zI_add b 1]
        have ei : f_Ha_isInside_10 (zI (s.2.2.2 b 0 : Nat)) (zI (s.2.2.2 b 1 : Nat)) hc = b2 (decide (s.2.2.2 b 0 ≤ s.2.2.1 0) && decide (s.2.2.2 b 1 ≤ s.2.2.1 1)) := by
          unfold f_Ha_isInside_10
          rw [q3.1, q3.2.1]
          have z1 := zI_lt (a := (s.2.2.2 b 0 : Int)) (b := 0) (by omega) (by omega)
          have z2 := zI_lt (a := (s.2.2.1 0 : Int)) (b := (s.2.2.2 b 0 : Int)) (by omega) (by omega)
          have z3 := zI_lt (a := (s.2.2.2 b 1 : Int)) (b := 0) (by omega) (by omega)
          have z4 := zI_lt (a := (s.2.2.1 1 : Int)) (b := (s.2.2.2 b 1 : Int)) (by omega) (by omega)
          rw [show zI 0 = (0 : Int32) from by decide] at z1 z3
          rw [if_neg (fun q => by have := z1.mp q; omega)]
          by_cases y1 : s.2.2.2 b 0 ≤ s.2.2.1 0
          · rw [if_neg (fun q => by have := z2.mp q; omega), if_neg (fun q => by have := z3.mp q; omega), decide_eq_true y1, Bool.true_and]
            by_cases y2 : s.2.2.2 b 1 ≤ s.2.2.1 1
            · rw [if_neg (fun q => by have := z4.mp q; omega), decide_eq_true y2]; rfl
            · rw [if_pos (z4.mpr (by omega)), decide_eq_false y2]; rfl
          · rw [if_pos (z2.mpr (by omega)), decide_eq_false y1]; rfl
        rw [ei]
        refine ⟨fun c => ?_, fun c => ?_⟩
        · have c := (b2_0 _).mp c
          have : whB s = false := by
            cases w : whB s with
            | false => rfl
            | true =>
              have := (whA.mp w).2 b (by omega)
              rw [decide_eq_true this.1, decide_eq_true this.2] at c; cases c
          rw [this] at K; exact K
        · have c := b2_t c
          simp only [Bool.and_eq_true, decide_eq_true_eq] at c
          refine ih (b + 1) (by omega) (fun b' hb' => ?_)
          by_cases z : b' = b
          · subst z; exact c
          · exact I b' (by omega)
  exact lp s.2.1 0 (by omega) (fun b' hb' => absurd hb' (Nat.not_lt_zero b'))
def fuH (s : HS) : Nat := (if s.1 = true then 0 else 1) + (6 - s.2.1)
theorem pCl_fu {p : Nat} {s : HS} {p' : Nat} {s' : HS} (h : pCl n tb p s = .inr (p', s')) : fuH s = fuH s' + 1 := by
  unfold pCl at h
  by_cases c1 : chA n tb (sk n tb p) = 114 ∧ s.1 = false
  · rw [if_pos c1] at h
    cases e : pIt n tb 0 4 4 (sk n tb p + 1) 0 lsU with
    | inl e' => rw [e] at h; cases h
    | inr r =>
      rw [e] at h
      obtain ⟨a, b⟩ := r
      cases h
      unfold fuH hsR
      rw [c1.2]; simp; omega
  · rw [if_neg c1] at h
    by_cases c2 : chA n tb (sk n tb p) = 98 ∧ s.2.1 < 6
    · rw [if_pos c2] at h
      cases e : pIt n tb 4 3 3 (sk n tb p + 1) 0 lsU with
      | inl e' => rw [e] at h; cases h
      | inr r =>
        rw [e] at h
        obtain ⟨a, b⟩ := r
        cases h
        unfold fuH hsB
        have := c2.2
        simp only
        split <;> omega
    · rw [if_neg c2] at h; cases h
theorem rd_c {G : rx_Gh} {F : Int32 → rx_Hp → Prop} (ok : TOk n tb) : ∀ (m i p : Nat) (s : HS) (hc : rx_Hp), i + m = 7 → fuH s = m → okS s → p ≤ n → AtC n tb p hc → FC s hc → (∀ e h', pH n tb m p s = .inl e → Fr hrF hrA hc h' → F (zI e) h') → (∀ s' h', pH n tb m p s = .inr s' → okS s' → whB s' = true → FC s' h' → Fr hrF hrA hc h' → F (-1) h') → Rn wC G 11 q_HR_read 71 [some (.ref 8), some (.int (zI i))] [] hc (rI F) := by
  have o1 := ok.1
  intro m
  induction m with
  | zero =>
    intro i p s hc hi hf hs hp T S Kl Kr
    have hcn : ¬ 7 < zI (i : Int) := by rw [show (7 : Int32) = zI 7 from by decide, zI_lt (by omega) (by omega)]; omega
    have eP : pCl n tb p s = .inl (sk n tb p) := by
      unfold fuH at hf
      have h1 : s.1 = true := by
        cases z : s.1 with
        | true => rfl
        | false => rw [z] at hf; simp at hf
      have h2 : ¬ s.2.1 < 6 := by omega
      unfold pCl
      rw [if_neg (by rw [h1]; simp), if_neg (fun z => h2 z.2)]
    refine w_HR_read_71 _ ⟨fun c => absurd c hcn, fun _ => rcl_c ok hs hp T S (fun e h' he T' f' => ?_) (fun p' s' h' he => ?_)⟩
    · rw [eP] at he
      cases he
      refine ⟨fun _ => ?_, fun c => absurd rfl c⟩
      rw [T'.2]
      exact Kl _ h' (by unfold pH; rfl) f'
    · rw [eP] at he; cases he
  | succ m ih =>
    intro i p s hc hi hf hs hp T S Kl Kr
    have hcn : ¬ 7 < zI (i : Int) := by rw [show (7 : Int32) = zI 7 from by decide, zI_lt (by omega) (by omega)]; omega
    have eP : pH n tb (m + 1) p s = (match pCl n tb p s with | .inl e => .inl e | .inr (p', s') => if chA n tb (sk n tb p') = 0 then (if whB s' = true then .inr s' else .inl n) else if chA n tb (sk n tb p') = 59 then pH n tb m (sk n tb p' + 1) s' else .inl (sk n tb p')) := by
      conv => lhs; unfold pH
      cases pCl n tb p s <;> rfl
    rw [eP] at Kl Kr
    refine w_HR_read_71 _ ⟨fun c => absurd c hcn, fun _ => rcl_c ok hs hp T S (fun e h1 he T1 f1 => ?_) (fun p' s' h1 he hp' hs' T1 S1 f1 => ?_)⟩
    · rw [he] at Kl
      refine ⟨fun _ => ?_, fun c => absurd rfl c⟩
      rw [T1.2]
      exact Kl e h1 rfl f1
    · rw [he] at Kl Kr
      simp only at Kl Kr
      have hfu := pCl_fu he
      have cl := chA_le ok (sk n tb p')
      have s2 := sk_le (tb := tb) hp'
      refine ⟨fun c => absurd c (by decide), fun _ => look_c ok hp' T1 (fun h3 T3 f3 => ?_)⟩
      have S3 := S1.fr f3
      have fr3 : Fr hrF hrA hc h3 := f1.tr (f3.mono (by decide) (by decide))
      rw [z0_iff (by omega)]
      refine ⟨fun c => ?_, fun c => ?_⟩
      · rw [if_pos c] at Kl Kr
        refine wh_c hs' S3 ?_
        rw [T3.1.1]
        cases w : whB s' with
        | true =>
          rw [w, if_pos rfl] at Kr
          have := Kr s' h3 rfl hs' w S3 fr3
          exact this
        | false =>
          rw [w] at Kl
          have := Kl n h3 rfl fr3
          exact this
      · rw [if_neg c] at Kl Kr
        rw [show (59 : Int32) = zI ((59 : Nat) : Int) from by decide]
        have ss := sk_sk (tb := tb) hp'
        refine take_c ok s2 (by omega) T3 (fun d h5 T5 f5 => ?_) (fun d h5 T5 f5 => ?_)
        · rw [ss] at d T5
          rw [if_pos d] at Kl Kr
          refine ⟨fun c => absurd c (by decide), fun _ => ?_⟩
          have fr5 : Fr hrF hrA hc h5 := fr3.tr (f5.mono (by decide) (by decide))
          have hlt := chA_lt d (by omega)
          rw [show zI (i : Int) + 1 = zI ((i + 1 : Nat) : Int) from zI_add i 1]
          exact ih (i + 1) (sk n tb p' + 1) s' h5 (by omega) (by omega) hs' (by omega) T5 (S3.fr f5) (fun e h' he' f' => Kl e h' he' (fr5.tr f')) (fun s'' h' he' a b c f' => Kr s'' h' he' a b c (fr5.tr f'))
        · rw [ss] at d T5
          rw [if_neg d] at Kl
          refine ⟨fun _ => ?_, fun c => absurd rfl c⟩
          rw [T5.2]
          exact Kl _ h5 rfl (fr3.tr (f5.mono (by decide) (by decide)))
theorem hs0_ok : okS hs0 := ⟨by decide, fun k hk => ⟨(ls_bd ⟨k, by omega⟩).1, (ls_bd ⟨k, by omega⟩).2.1⟩, fun b hb => absurd hb (Nat.not_lt_zero b)⟩
theorem read_hc {G : rx_Gh} {F : Int32 → rx_Hp → Prop} (ok : TOk n tb) {hc : rx_Hp} (T : TC n tb hc) (Kl : ∀ e h', pHall n tb = .inl e → Fr hrF hrA hc h' → F (zI e) h') (Kr : ∀ s h', pHall n tb = .inr s → okS s → whB s = true → FC s h' → Fr hrF hrA hc h' → F (-1) h') : Ev wC G 11 q_HR_read [.ref 8] hc (rI F) := by
  refine w_HR_read ?_
  have fr : Fr hrF hrA hc (rx_pf (rx_pf (rx_pf (rx_pf (rx_pf (rx_pf (rx_pf hc 1 2 0) 10 4 0) 10 5 10) 10 6 8) 10 7 15) 10 8 10) 8 3 0) := ((((((Fr.rf.pf (by decide)).pf (by decide)).pf (by decide)).pf (by decide)).pf (by decide)).pf (by decide)).pf (by decide)
  refine rd_c ok 7 0 0 hs0 _ (by omega) (by decide) hs0_ok (by omega) ⟨T.fr fr, ?_⟩ ⟨⟨?_, ?_⟩, ⟨?_, ?_, ?_, ?_⟩, fun b hb => absurd hb (Nat.not_lt_zero b)⟩ (fun e h' he f' => Kl e h' he (fr.tr f')) (fun s h' he a b c f' => Kr s h' he a b c (fr.tr f'))
  · rw [pf_ne _ _ (by decide), pf_ne _ _ (by decide), pf_ne _ _ (by decide), pf_ne _ _ (by decide), pf_ne _ _ (by decide), pf_ne _ _ (by decide), pf_same]; decide
  · rw [pf_ne _ _ (by decide), pf_ne _ _ (by decide), pf_ne _ _ (by decide), pf_ne _ _ (by decide), pf_ne _ _ (by decide), pf_same]; decide
  · rw [pf_same]; decide
  · rw [pf_ne _ _ (by decide), pf_ne _ _ (by decide), pf_ne _ _ (by decide), pf_ne _ _ (by decide), pf_same]; decide
  · rw [pf_ne _ _ (by decide), pf_ne _ _ (by decide), pf_ne _ _ (by decide), pf_same]; decide
  · rw [pf_ne _ _ (by decide), pf_ne _ _ (by decide), pf_same]; decide
  · rw [pf_ne _ _ (by decide), pf_same]; decide
end HLD

/-! the model's reader of lights: the whole -/
section LRP
variable {n : Nat} {tb : Nat → Nat} {r : Nat}
def mlT (cs : List Cl) : List Tk := cs.foldl (fun T c => T ++ (c.1 ++ c.2)) []
theorem mlT_app (cs : List Cl) (c : Cl) : mlT (cs ++ [c]) = mlT cs ++ (c.1 ++ c.2) := by unfold mlT; rw [List.foldl_append]; rfl
def LtT (r : Nat) (cs : List Cl) (hm : rx_Hp) : Prop := hm.2.1 5 r = zI (cs.length : Nat) ∧ ∀ j c, cs[j]? = some c → hm.2.1 6 (90 * r + j) = zI ((mlT (cs.take j)).length : Nat) ∧ hm.2.1 7 (90 * r + j) = zI (((mlT (cs.take j)).length + c.1.length : Nat) : Int) ∧ hm.2.1 8 (90 * r + j) = zI (((mlT (cs.take j)).length + c.1.length + c.2.length : Nat) : Int)
def LtM (r : Nat) (cs : List Cl) (hm : rx_Hp) : Prop := LtT r cs hm ∧ ∀ i t, (mlT cs)[i]? = some t → hm.2.1 2 (340 * r + i) = zI (t.1 : Nat) ∧ hm.2.1 3 (340 * r + i) = zI (t.2 : Nat)
def mlG : List (Nat × Nat) := [(0, 3), (0, 4), (0, 5), (0, 14)]
def mwr (r : Nat) (a b : rx_Hp) : Prop := Fr mlG [2, 3, 4, 5, 6, 7, 8] a b ∧ (∀ i, ¬ (340 * r ≤ i ∧ i < 340 * r + 340) → b.2.1 2 i = a.2.1 2 i ∧ b.2.1 3 i = a.2.1 3 i) ∧ (∀ j, ¬ j = r → b.2.1 4 j = a.2.1 4 j ∧ b.2.1 5 j = a.2.1 5 j) ∧ ∀ i, ¬ (90 * r ≤ i ∧ i < 90 * r + 90) → b.2.1 6 i = a.2.1 6 i ∧ b.2.1 7 i = a.2.1 7 i ∧ b.2.1 8 i = a.2.1 8 i
theorem mwr.tr {r : Nat} {a b c : rx_Hp} (h1 : mwr r a b) (h2 : mwr r b c) : mwr r a c := ⟨h1.1.tr h2.1, fun i hi => ⟨(h2.2.1 i hi).1.trans (h1.2.1 i hi).1, (h2.2.1 i hi).2.trans (h1.2.1 i hi).2⟩, fun j hj => ⟨(h2.2.2.1 j hj).1.trans (h1.2.2.1 j hj).1, (h2.2.2.1 j hj).2.trans (h1.2.2.1 j hj).2⟩, fun i hi => ⟨(h2.2.2.2 i hi).1.trans (h1.2.2.2 i hi).1, (h2.2.2.2 i hi).2.1.trans (h1.2.2.2 i hi).2.1, (h2.2.2.2 i hi).2.2.trans (h1.2.2.2 i hi).2.2⟩⟩
theorem mwr.c {r j : Nat} (hj : j < 90) {a b : rx_Hp} (h : mcf r (90 * r + j) a b) : mwr r a b := ⟨h.1.mono (by decide) (fun _ z => z), h.2.1, h.2.2.1, fun i hi => h.2.2.2 i (by omega)⟩
theorem mwr.of {r : Nat} {fs : List (Nat × Nat)} {a b : rx_Hp} (h : Fr fs [] a b) (hf : ∀ y ∈ fs, y ∈ mlF) : mwr r a b := mwr.c (j := 0) (by omega) (mcf.of h hf)
theorem LtT.of {cs : List Cl} {fs : List (Nat × Nat)} {a b : rx_Hp} (h : LtT r cs a) (f : Fr fs [] a b) : LtT r cs b := by
  refine ⟨by rw [f.2.1 5 (by simp)]; exact h.1, fun j c hc => ?_⟩
  rw [f.2.1 6 (by simp), f.2.1 7 (by simp), f.2.1 8 (by simp)]; exact h.2 j c hc
theorem end_m {G : rx_Gh} {F : Int32 → rx_Hp → Prop} {e : Nat} (he : e ≤ 1000) {hm : rx_Hp} (hw : hm.1 0 4 = zI e) (K : F (zI e) hm) : Ev wM G 3 q_M_atEnd [.ref 0] hm (rI fun r7 h6 => F r7 h6) := by
  refine w_M_atEnd ⟨fun z => absurd (hw ▸ z) (nz_e he), fun _ => ?_⟩
  rw [hw]; exact K
def tlL (n : Nat) (tb : Nat → Nat) (f p : Nat) (cs : List Cl) : Nat ⊕ List Cl := if chA n tb (sk n tb p) = 0 then .inr cs else if chA n tb (sk n tb p) = 59 then pLi n tb f (sk n tb p + 1) cs else .inl (sk n tb p)
theorem pLi_s (f p : Nat) (cs : List Cl) : pLi n tb (f + 1) p cs = (match pCla n tb p with | .inl e => .inl e | .inr (p', c) => tlL n tb f p' (cs ++ [c])) := by
  conv => lhs; unfold pLi
  cases pCla n tb p <;> rfl
/-- a clause more -/
theorem cl1_m {G : rx_Gh} {F : rx_Hp → Prop} (ok : TOk n tb) (hr : r < 5) {p : Nat} {cs : List Cl} {hm : rx_Hp} (hp : p ≤ n) (hc90 : cs.length < 90) (hT : (mlT cs).length + (n - p) ≤ 160) (T0 : AtM n tb p hm) (hw : hm.1 0 4 = -1) (hd : hm.1 0 5 = 0) (S0 : MTk r (mlT cs) hm) (L0 : LtT r cs hm) (Kl : ∀ e h', pCla n tb p = .inl e → e ≤ n → h'.1 0 4 = zI e → mwr r hm h' → F h') (Kr : ∀ p' c h', pCla n tb p = .inr (p', c) → p < p' → p' ≤ n → (mlT (cs ++ [c])).length + (n - p') ≤ 160 → AtM n tb p' h' → h'.1 0 4 = -1 → h'.1 0 5 = 0 → MTk r (mlT (cs ++ [c])) h' → LtT r (cs ++ [c]) h' → mwr r hm h' → F h') : Ev wM G 75 q_M_clause [.ref 0] hm (rV F) := by
  obtain ⟨g1, g2⟩ := gC_cl ok hp
  refine cla_m ok hr hc90 hp hT T0 hw hd S0 L0.1 (fun e h' he w' f' => Kl e h' he (g1 e he).2 w' (mwr.c hc90 f')) (fun p' c h' he T' w' d' S' j' x6 x7 x8 f' => ?_)
  obtain ⟨a1, a2, a3, a4⟩ := g2 p' c he
  have a3 := a3 0
  have hl : c.1.length + c.2.length ≤ (clF 0 c).length := by
    unfold clF
    by_cases h : c.1 = []
    · rw [if_pos h, h]; simp
    · rw [if_neg h]; simp; omega
  refine Kr p' c h' he a1 a2 ?_ T' w' d' (by rw [mlT_app]; exact S') ⟨by rw [j', List.length_append, List.length_singleton], fun i c' hc' => ?_⟩ (mwr.c hc90 f')
  · rw [mlT_app, List.length_append, List.length_append]; omega
  · by_cases q : i < cs.length
    · rw [List.getElem?_append_left q] at hc'
      rw [List.take_append_of_le_length (by omega)]
      obtain ⟨z1, z2, z3⟩ := f'.2.2.2 (90 * r + i) (by omega)
      rw [z1, z2, z3]
      exact L0.2 i c' hc'
    · have hi : i = cs.length := by
        have := (List.getElem?_eq_some_iff.mp hc').1
        rw [List.length_append, List.length_singleton] at this; omega
      subst hi
      rw [List.getElem?_append_right (Nat.le_refl _), Nat.sub_self] at hc'
      have hc' : c = c' := by simpa using hc'
      subst hc'
      rw [List.take_append_of_le_length (Nat.le_refl _), List.take_length]
      exact ⟨x6, x7, x8⟩
theorem l9_m {G : rx_Gh} {F : Int32 → rx_Hp → Prop} (ok : TOk n tb) (hr : r < 5) : ∀ (m p f : Nat) (cs : List Cl) (hm : rx_Hp), p + m = n → n - p ≤ f → 2 * cs.length ≤ p + 1 → (mlT cs).length + (n - p) ≤ 160 → AtM n tb p hm → hm.1 0 4 = -1 → hm.1 0 5 = 0 → MTk r (mlT cs) hm → LtT r cs hm → (∀ e h', tlL n tb f p cs = .inl e → mwr r hm h' → F (zI e) h') → (∀ L h', tlL n tb f p cs = .inr L → LtM r L h' → mwr r hm h' → F (-1) h') → ((hm.1 0 4) = (-1) → Ev wM G 2 q_M_look [.ref 0] hm (rI fun r2 h1 => (r2 = 59 → Ev wM G 75 q_M_clause [.ref 0] (rx_pf h1 0 3 ((h1.1 0 3) + 1)) (rV fun h3 => Rn wM G 76 q_M_readLaw 9 [some (.ref 0), none] [] h3 (rI F))) ∧ (¬ r2 = 59 → Ev wM G 3 q_M_atEnd [.ref 0] h1 (rI fun r5 h4 => F r5 h4)))) ∧ (¬ (hm.1 0 4) = (-1) → Ev wM G 3 q_M_atEnd [.ref 0] hm (rI fun r7 h6 => F r7 h6)) := by
  have o1 := ok.1
  intro m
  induction m using Nat.strongRecOn with
  | ind m ih =>
    intro p f cs hm hpm hf hcl hT T0 hw hd S0 L0 Kl Kr
    have hp : p ≤ n := by omega
    have s1 := sk_ge (tb := tb) hp
    have s2 := sk_le (tb := tb) hp
    have cl := chA_le ok (sk n tb p)
    refine ⟨fun _ => look_m ok hp T0 (fun h1 T1 f1 => ?_), fun z => absurd hw z⟩
    have w1 : h1.1 0 4 = -1 := (f1.1 _ _ (by decide)).trans hw
    have d1 : h1.1 0 5 = 0 := (f1.1 _ _ (by decide)).trans hd
    have S1 := S0.of f1
    have L1 := L0.of f1
    have fr1 : mwr r hm h1 := mwr.of f1 (by decide)
    have q59 : zM (chA n tb (sk n tb p)) = 59 ↔ chA n tb (sk n tb p) = 59 := zM_eq cl (k := 59) (by omega) (by omega)
    unfold tlL at Kl Kr
    rw [q59]
    refine ⟨fun c => ?_, fun c => ?_⟩
    · have hlt := chA_lt c (by omega)
      rw [if_neg (by omega), if_pos c] at Kl Kr
      obtain ⟨f', rfl⟩ : ∃ f', f = f' + 1 := ⟨f - 1, by omega⟩
      rw [pLi_s] at Kl Kr
      have f2 : Fr [(0, 3)] [] h1 (rx_pf h1 0 3 (h1.1 0 3 + 1)) := Fr.rf.pf (by decide)
      have T2 : AtM n tb (sk n tb p + 1) (rx_pf h1 0 3 (h1.1 0 3 + 1)) := T1.to (by rw [T1.2]; exact zI_add _ 1)
      have fr2 : mwr r hm (rx_pf h1 0 3 (h1.1 0 3 + 1)) := fr1.tr (mwr.of f2 (by decide))
      refine cl1_m ok hr (p := sk n tb p + 1) (by omega) (by omega) (by omega) T2 (by rw [pf_ne _ _ (by decide)]; exact w1) (by rw [pf_ne _ _ (by decide)]; exact d1) (S1.of f2) (L1.of f2) (fun e h3 he he2 w3 f3 => ?_) (fun p' c' h3 he a1 a2 a3 T3 w3 d3 S3 L3 f3 => ?_)
      · rw [he] at Kl
        exact w_M_readLaw_9 ⟨fun z => absurd (w3 ▸ z) (nz_e (by omega)), fun _ => end_m (e := e) (by omega) w3 (Kl e h3 rfl (fr2.tr f3))⟩
      · rw [he] at Kl Kr
        simp only at Kl Kr
        refine w_M_readLaw_9 (ih (n - p') (by omega) p' f' (cs ++ [c']) h3 (by omega) (by omega) (by rw [List.length_append, List.length_singleton]; omega) a3 T3 w3 d3 S3 L3 (fun e h' he' f'' => Kl e h' he' (fr2.tr (f3.tr f''))) (fun L h' he' L' f'' => Kr L h' he' L' (fr2.tr (f3.tr f''))))
    · refine w_M_atEnd ⟨fun _ => look_m ok s2 T1 (fun h2 T2 f2 => ?_), fun z => absurd w1 z⟩
      have ss := sk_sk (tb := tb) hp
      rw [ss] at T2 ⊢
      have w2 : h2.1 0 4 = -1 := (f2.1 _ _ (by decide)).trans w1
      have fr2 : mwr r hm h2 := fr1.tr (mwr.of f2 (by decide))
      rw [zM_m1 cl]
      refine ⟨fun d => ?_, fun d => ?_⟩
      · rw [if_pos d] at Kr
        rw [w2]
        have S2 := S1.of f2
        exact Kr cs h2 rfl ⟨L1.of f2, S2.2.2⟩ fr2
      · rw [if_neg d, if_neg c] at Kl
        obtain ⟨b1, b2'⟩ := bad_m T2 w2
        rw [b1]
        exact Kl _ _ rfl (fr2.tr (mwr.of b2' (by decide)))
theorem read_lm {G : rx_Gh} {F : Int32 → rx_Hp → Prop} (ok : TOk n tb) (hr : r < 5) {hm : rx_Hp} (T : TM n tb hm) (Kl : ∀ e h', pLight n tb = .inl e → mwr r hm h' → F (zI e) h') (Kr : ∀ L h', pLight n tb = .inr L → LtM r L h' → mwr r hm h' → F (-1) h') : Ev wM G 76 q_M_readLaw [.ref 0, .int (zI r)] hm (rI F) := by
  have o1 := ok.1
  refine w_M_readLaw _ ⟨vp_N (by omega) (by omega), ?_⟩
  have eg : g_M_open (zI r) hm = rx_pa (rx_pa (rx_pf (rx_pf (rx_pf (rx_pf hm 0 14 (zI r)) 0 3 0) 0 4 (-1)) 0 5 0) 4 r 0) 5 r 0 := by unfold g_M_open; rw [zI_cN (by omega)]
  have fr0 : mwr r hm (g_M_open (zI r) hm) := by
    rw [eg]
    refine ⟨(((((Fr.rf.pf (by decide)).pf (by decide)).pf (by decide)).pf (by decide)).pa (by decide)).pa (by decide), fun i hi => ?_, fun j hj => ?_, fun i hi => ?_⟩
    · rw [pa_ne _ _ (by simp), pa_ne _ _ (by simp), pa_ne _ _ (by simp), pa_ne _ _ (by simp)]; exact ⟨rfl, rfl⟩
    · rw [pa_ne _ _ (by simp), pa_ne _ _ (by simp [hj]), pa_ne _ _ (by simp [hj]), pa_ne _ _ (by simp)]; exact ⟨rfl, rfl⟩
    · rw [pa_ne _ _ (by simp), pa_ne _ _ (by simp), pa_ne _ _ (by simp), pa_ne _ _ (by simp), pa_ne _ _ (by simp), pa_ne _ _ (by simp)]; exact ⟨rfl, rfl, rfl⟩
  have T0 : AtM n tb 0 (g_M_open (zI r) hm) := ⟨T.fr fr0.1, by rw [eg, pa_f, pa_f, pf_ne _ _ (by decide), pf_ne _ _ (by decide), pf_same]; decide⟩
  have w0 : (g_M_open (zI r) hm).1 0 4 = -1 := by rw [eg, pa_f, pa_f, pf_ne _ _ (by decide), pf_same]
  have d0 : (g_M_open (zI r) hm).1 0 5 = 0 := by rw [eg, pa_f, pa_f, pf_same]
  have S0 : MTk r (mlT []) (g_M_open (zI r) hm) := by
    refine ⟨by rw [eg, pa_f, pa_f, pf_ne _ _ (by decide), pf_ne _ _ (by decide), pf_ne _ _ (by decide), pf_same], by rw [eg, pa_ne _ _ (by simp), pa_same]; decide, fun i t ht => ?_⟩
    have ht : ([] : List Tk)[i]? = some t := ht
    simp at ht
  have L0 : LtT r [] (g_M_open (zI r) hm) := ⟨by rw [eg, pa_same]; decide, fun j c hc => by simp at hc⟩
  unfold pLight at Kl Kr
  rw [pLi_s] at Kl Kr
  refine cl1_m ok hr (p := 0) (by omega) (by decide) (by show 0 + (n - 0) ≤ 160; omega) T0 w0 d0 S0 L0 (fun e h1 he he2 w1 f1 => ?_) (fun p' c h1 he a1 a2 a3 T1 w1 d1 S1 L1 f1 => ?_)
  · rw [he] at Kl
    exact ⟨fun z => absurd (w1 ▸ z) (nz_e (by omega)), fun _ => end_m (e := e) (by omega) w1 (Kl e h1 rfl (fr0.tr f1))⟩
  · rw [he] at Kl Kr
    simp only at Kl Kr
    exact l9_m (G := G) (F := F) ok hr (n - p') p' n ([] ++ [c]) h1 (by omega) (by omega) (by show 2 * 1 ≤ p' + 1; omega) a3 T1 w1 d1 S1 L1 (fun e h' he' f'' => Kl e h' he' (fr0.tr (f1.tr f''))) (fun L h' he' L' f'' => Kr L h' he' L' (fr0.tr (f1.tr f'')))
end LRP

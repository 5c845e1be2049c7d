/-! fault, text: both sides -/
def LtC (o : Nat) (cs : List Cl) (hc : rx_Hp) : Prop := hc.1 o 2 = zI ((flA cs).length : Nat) ∧ ∀ i t, (flA cs)[i]? = some t → hc.2.1 (o + 1) i = zI (sgC t.1 : Nat) ∧ hc.2.1 (o + 2) i = zI (t.2 : Nat)
def wfL (cs : List Cl) : Prop := (∀ c ∈ cs, wfC c) ∧ (flA cs).length ≤ 160 ∧ cs.length ≤ 80
def LGC (nl : Nat) (Lt : Nat → List Cl) (hc : rx_Hp) : Prop := ∀ i, i < nl → LtC (20 + 3 * i) (Lt i) hc
def LGM (nl : Nat) (Lt : Nat → List Cl) (hm : rx_Hp) : Prop := ∀ i, i < nl → LtM i (Lt i) hm
def LGOk (nl : Nat) (Lt : Nat → List Cl) : Prop := ∀ i, i < nl → wfL (Lt i)
section TXT
variable {n : Nat} {tb : Nat → Nat}
theorem pLi_ok (ok : TOk n tb) : ∀ (f p : Nat) (cs : List Cl) (L : List Cl), p ≤ n → (flA cs).length ≤ p → 2 * cs.length ≤ p → (∀ c ∈ cs, wfC c) → pLi n tb f p cs = .inr L → wfL L
  | 0, p, cs, L, _, _, _, _, h => by cases h
  | f + 1, p, cs, L, hp, hl, h2, hw, h => by
    rw [pLi_s] at h
    have o1 := ok.1
    obtain ⟨g1, g2⟩ := gC_cl ok hp
    cases e : pCla n tb p with
    | inl e' => rw [e] at h; cases h
    | inr y =>
      obtain ⟨p', c⟩ := y
      obtain ⟨a1, a2, a3, a4⟩ := g2 p' c e
      have a3 := a3 (flA cs).length
      have s1 := sk_ge (n := n) (tb := tb) a2
      rw [e] at h
      simp only at h
      unfold tlL at h
      have hw' : ∀ c' ∈ cs ++ [c], wfC c' := by
        intro c' hc'
        rcases List.mem_append.mp hc' with h | h
        · exact hw c' h
        · have : c' = c := by simpa using h
          subst this; exact a4
      have hl' : (flA (cs ++ [c])).length ≤ p' := by rw [flA_app, List.length_append]; omega
      have h2' : 2 * (cs ++ [c]).length ≤ p' + 1 := by rw [List.length_append, List.length_singleton]; omega
      by_cases c0 : chA n tb (sk n tb p') = 0
      · rw [if_pos c0] at h
        cases h
        exact ⟨hw', by omega, by omega⟩
      · rw [if_neg c0] at h
        by_cases c1 : chA n tb (sk n tb p') = 59
        · rw [if_pos c1] at h
          have hlt := chA_lt c1 (by omega)
          exact pLi_ok ok f _ _ L (by omega) (by omega) (by omega) hw' h
        · rw [if_neg c1] at h; cases h
theorem pLight_ok (ok : TOk n tb) {L : List Cl} (h : pLight n tb = .inr L) : wfL L := pLi_ok ok (n + 1) 0 [] L (by omega) (by decide) (by decide) (fun c hc => by cases hc) h
theorem pLi_e (ok : TOk n tb) : ∀ (f p : Nat) (cs : List Cl) (e : Nat), p ≤ n → n + 1 - p ≤ f → pLi n tb f p cs = .inl e → e ≤ n
  | 0, p, cs, e, hp, hf, h => by omega
  | f + 1, p, cs, e, hp, hf, h => by
    rw [pLi_s] at h
    obtain ⟨g1, g2⟩ := gC_cl ok hp
    cases e1 : pCla n tb p with
    | inl e' => rw [e1] at h; cases h; exact (g1 e e1).2
    | inr y =>
      obtain ⟨p', c⟩ := y
      obtain ⟨a1, a2, a3, a4⟩ := g2 p' c e1
      have s2 := sk_le (n := n) (tb := tb) a2
      have s1 := sk_ge (n := n) (tb := tb) a2
      rw [e1] at h
      simp only at h
      unfold tlL at h
      by_cases c0 : chA n tb (sk n tb p') = 0
      · rw [if_pos c0] at h; cases h
      · rw [if_neg c0] at h
        by_cases c1 : chA n tb (sk n tb p') = 59
        · rw [if_pos c1] at h
          have hlt := chA_lt c1 (by omega)
          exact pLi_e ok f _ _ e (by omega) (by omega) h
        · rw [if_neg c1] at h; cases h; exact s2
theorem pH_e (ok : TOk n tb) : ∀ (m p : Nat) (s : HS) (e : Nat), p ≤ n → pH n tb m p s = .inl e → e ≤ n
  | 0, p, s, e, hp, h => by cases h; exact sk_le hp
  | m + 1, p, s, e, hp, h => by
    have l7 : ∀ k, k < 7 → lsL k ≤ lsU k ∧ lsU k ≤ lsM k := fun k hk => ⟨(ls_bd ⟨k, hk⟩).1, (ls_bd ⟨k, hk⟩).2.1⟩
    have s2 := sk_le (n := n) (tb := tb) hp
    have bc : (∀ e', pCl n tb p s = .inl e' → e' ≤ n) ∧ (∀ p' s', pCl n tb p s = .inr (p', s') → p' ≤ n) := by
      unfold pCl
      by_cases c1 : chA n tb (sk n tb p) = 114 ∧ s.1 = false
      · rw [if_pos c1]
        have hlt := chA_lt c1.1 (by omega)
        obtain ⟨b1, b2⟩ := pIt_bd (n := n) (tb := tb) (a := 0) (c := 4) 4 (sk n tb p + 1) 0 lsU (by omega) l7
        cases e1 : pIt n tb 0 4 4 (sk n tb p + 1) 0 lsU with
        | inl e' => exact ⟨fun e'' he => (by cases he; exact b1 e' e1), fun p' s' he => (by cases he)⟩
        | inr y =>
          obtain ⟨p1, v⟩ := y
          exact ⟨fun e'' he => (by cases he), fun p' s' he => (by cases he; exact (b2 p1 v e1).2.1)⟩
      · rw [if_neg c1]
        by_cases c2 : chA n tb (sk n tb p) = 98 ∧ s.2.1 < 6
        · rw [if_pos c2]
          have hlt := chA_lt c2.1 (by omega)
          obtain ⟨b1, b2⟩ := pIt_bd (n := n) (tb := tb) (a := 4) (c := 3) 3 (sk n tb p + 1) 0 lsU (by omega) l7
          cases e1 : pIt n tb 4 3 3 (sk n tb p + 1) 0 lsU with
          | inl e' => exact ⟨fun e'' he => (by cases he; exact b1 e' e1), fun p' s' he => (by cases he)⟩
          | inr y =>
            obtain ⟨p1, v⟩ := y
            exact ⟨fun e'' he => (by cases he), fun p' s' he => (by cases he; exact (b2 p1 v e1).2.1)⟩
        · rw [if_neg c2]
          exact ⟨fun e'' he => (by cases he; exact s2), fun p' s' he => (by cases he)⟩
    unfold pH at h
    cases e1 : pCl n tb p s with
    | inl e' => rw [e1] at h; cases h; exact bc.1 _ e1
    | inr y =>
      obtain ⟨p', s'⟩ := y
      have hp' := bc.2 p' s' e1
      have s3 := sk_le (n := n) (tb := tb) hp'
      rw [e1] at h
      simp only at h
      by_cases c0 : chA n tb (sk n tb p') = 0
      · rw [if_pos c0] at h
        by_cases w : whB s' = true
        · rw [if_pos w] at h; cases h
        · rw [if_neg w] at h; cases h; exact Nat.le_refl _
      · rw [if_neg c0] at h
        by_cases c1 : chA n tb (sk n tb p') = 59
        · rw [if_pos c1] at h
          have hlt := chA_lt c1 (by omega)
          exact pH_e ok m _ _ e (by omega) h
        · rw [if_neg c1] at h; cases h; exact s3
/-- which cell the next text is read into -/
theorem frl_c {G : rx_Gh} {F : Nat → rx_Hp → Prop} {nl : Nat} (hn : nl ≤ 4) {hc : rx_Hp} (h : hc.1 0 14 = zI nl) (K : isL (20 + 3 * nl) → F (20 + 3 * nl) hc) : Ev wC G 1 q_GR_freeLight [.ref 0] hc (rR F) := by
  have c1 : ¬ zI (nl : Int) < 0 := by
    have z := zI_lt (a := (nl : Int)) (b := 0) (by omega) (by omega)
    rw [show zI 0 = (0 : Int32) from by decide] at z
    rw [z]; omega
  have c2 : ¬ 5 ≤ zI (nl : Int) := by rw [show (5 : Int32) = zI 5 from by decide, zI_le (by omega) (by omega)]; omega
  have il : isL (20 + 3 * nl) := by
    have : nl = 0 ∨ nl = 1 ∨ nl = 2 ∨ nl = 3 ∨ nl = 4 := by omega
    rcases this with rfl | rfl | rfl | rfl | rfl <;> (unfold isL; decide)
  have rr : ∀ lr, wC_r19 lr nl = some (20 + 3 * nl) := by
    intro lr
    have : nl = 0 ∨ nl = 1 ∨ nl = 2 ∨ nl = 3 ∨ nl = 4 := by omega
    rcases this with rfl | rfl | rfl | rfl | rfl <;> rfl
  refine w_GR_freeLight ?_
  rw [h]
  refine ⟨fun z => c1 z, fun _ => ⟨fun z => c2 z, fun _ => ⟨20 + 3 * nl, vp_N (by omega) (by omega), ?_, il, K il⟩⟩⟩
  rw [zI_cN (by omega)]; exact rr _
def A_fault (n : Nat) (tb : Nat → Nat) (k : Int32) : Int32 := if k = 0 then (match pHall n tb with | .inl e => zI e | .inr _ => -1) else if k = 1 then (match pLight n tb with | .inl e => zI e | .inr _ => -1) else -2
/-- what a reader leaves: cells of a hall that is read, of the light next to be read -/
def fcF (nl : Nat) : List (Nat × Nat) := hrF ++ [(20 + 3 * nl, 2)]
def fcA (nl : Nat) : List Nat := hrA ++ [20 + 3 * nl + 1, 20 + 3 * nl + 2]
theorem a_fault_c {G : rx_Gh} {F : Int32 → rx_Hp → Prop} (ok : TOk n tb) {nl : Nat} (hn : nl ≤ 4) {hc : rx_Hp} (T : TC n tb hc) (L : hc.1 0 14 = zI nl) (k : Int32) (K : ∀ h', (Fr (fcF nl) (fcA nl) hc h' ∨ Fr (fcF nl) (fcA nl) (rx_pl hc (20 + 3 * nl)) h') → F (A_fault n tb k) h') : Ev wC G 52 q_GR_fault [.ref 0, .int k] hc (rI F) := by
  unfold A_fault at K
  have m1 : ∀ x ∈ hrF, x ∈ fcF nl := fun x hx => List.mem_append_left _ hx
  have m2 : ∀ x ∈ hrA, x ∈ fcA nl := fun x hx => List.mem_append_left _ hx
  have m3 : ∀ x ∈ ltF (20 + 3 * nl), x ∈ fcF nl := by
    intro x hx
    unfold ltF at hx
    rcases List.mem_cons.mp hx with rfl | hx
    · exact List.mem_append_left _ (by decide)
    · exact List.mem_append_right _ hx
  have m4 : ∀ x ∈ ltA (20 + 3 * nl), x ∈ fcA nl := fun x hx => List.mem_append_right _ hx
  refine w_GR_fault k ⟨fun c => ?_, fun c => ⟨fun c2 => ?_, fun c2 => ?_⟩⟩
  · rw [if_pos c] at K
    refine read_hc ok T (fun e h' he f' => ?_) (fun s h' he _ _ _ f' => ?_)
    · have K := K h' (Or.inl (f'.mono m1 m2))
      rw [he] at K; exact K
    · have K := K h' (Or.inl (f'.mono m1 m2))
      rw [he] at K; exact K
  · rw [if_neg c, if_pos c2] at K
    refine frl_c hn L (fun il => read_lc ok il T (fun e h' he f' => ?_) (fun Lx h' he _ f' => ?_))
    · have K := K h' (Or.inr (f'.mono m3 m4))
      rw [he] at K; exact K
    · have K := K h' (Or.inr (f'.mono m3 m4))
      rw [he] at K; exact K
  · rw [if_neg c, if_neg c2] at K
    exact K hc (Or.inl Fr.rf)
theorem a_fault_m {G : rx_Gh} {F : Int32 → rx_Hp → Prop} (ok : TOk n tb) {hm : rx_Hp} (T : TM n tb hm) (k : Int32) (K : ∀ h', (Fr hmF [11, 12] hm h' ∨ mwr 4 hm h') → F (A_fault n tb k) h') : Ev wM G 77 q_M_fault [.ref 0, .int k] hm (rI F) := by
  unfold A_fault at K
  refine w_M_fault k ⟨fun c => ?_, fun c => ⟨fun c2 => ?_, fun c2 => ?_⟩⟩
  · rw [if_pos c] at K
    refine read_hm ok T (fun e h' he f' => ?_) (fun s h' he _ _ _ f' => ?_)
    · have K := K h' (Or.inl f')
      rw [he] at K; exact K
    · have K := K h' (Or.inl f')
      rw [he] at K; exact K
  · rw [if_neg c, if_pos c2] at K
    rw [show (4 : Int32) = zI ((4 : Nat) : Int) from by decide]
    refine read_lm ok (by omega) T (fun e h' he f' => ?_) (fun Lx h' he _ f' => ?_)
    · have K := K h' (Or.inr f')
      rw [he] at K; exact K
    · have K := K h' (Or.inr f')
      rw [he] at K; exact K
  · rw [if_neg c, if_neg c2] at K
    exact K hm (Or.inl Fr.rf)
end TXT

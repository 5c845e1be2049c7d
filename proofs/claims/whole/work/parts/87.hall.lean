/-! a hall as a text: what is read, and the class's reader -/
def lsL (k : Nat) : Nat := [1, 1, 0, 0, 0, 0, 0].getD k 0
def lsM (k : Nat) : Nat := [20, 20, 15, 99, 20, 20, 1].getD k 0
def lsU (k : Nat) : Nat := [10, 8, 15, 10, 1, 1, 1].getD k 0
theorem ls_ok : ∀ k : Fin 7, (rx_sa 0).getD (k : Nat) 0 = zI (lsU (k : Nat) : Nat) ∧ (rx_sa 1).getD (k : Nat) 0 = zI (lsL (k : Nat) : Nat) ∧ (rx_sa 2).getD (k : Nat) 0 = zI (lsM (k : Nat) : Nat) := by decide +kernel
theorem ls_bd : ∀ k : Fin 7, lsL k ≤ lsU k ∧ lsU k ≤ lsM k ∧ lsM k ≤ 99 := by decide
theorem ixH_lt : ∀ b : Fin 256, (match ixN ixH (b : Nat) with | some k => decide (k < 7) | none => true) = true := by decide +kernel
theorem ixH_7 {b k : Nat} (hb : b ≤ 255) (h : ixN ixH b = some k) : k < 7 := by
  have := ixH_lt ⟨b, by omega⟩
  simp only [h] at this
  simpa using this
theorem bit_t0 : ∀ (t : Fin 128) (k : Fin 7), ((zI (t : Nat) >>> (zI (k : Nat) &&& 31)) &&& 1) = zI ((if (t : Nat).testBit (k : Nat) then 1 else 0 : Nat) : Int) := by decide +kernel
theorem bit_o0 : ∀ (t : Fin 128) (k : Fin 7), (zI (t : Nat) ||| (1 <<< (zI (k : Nat) &&& 31))) = zI (((t : Nat) ||| (1 <<< (k : Nat)) : Nat) : Int) ∧ ((t : Nat) ||| (1 <<< (k : Nat))) < 128 := by decide +kernel
theorem bit_t {t k : Nat} (ht : t < 128) (hk : k < 7) : ((zI (t : Int) >>> (zI (k : Int) &&& 31)) &&& 1) = 1 ↔ t.testBit k = true := by
  have := bit_t0 ⟨t, ht⟩ ⟨k, hk⟩
  simp only at this
  rw [this]
  cases t.testBit k <;> decide
def bc7 (a c t : Nat) : Nat := ((List.range c).filter (fun i => t.testBit (a + i))).length
theorem bc_full0 : ∀ (t : Fin 128) (k : Fin 7), (bc7 0 4 t = 4 → (k : Nat) < 4 → (t : Nat).testBit k = true) ∧ (bc7 4 3 t = 3 → 4 ≤ (k : Nat) → (t : Nat).testBit k = true) := by decide +kernel
theorem bc_up0 : ∀ (t : Fin 128) (k : Fin 7), (t : Nat).testBit k = false → ((k : Nat) < 4 → bc7 0 4 ((t : Nat) ||| (1 <<< (k : Nat))) = bc7 0 4 t + 1) ∧ (4 ≤ (k : Nat) → bc7 4 3 ((t : Nat) ||| (1 <<< (k : Nat))) = bc7 4 3 t + 1) := by decide +kernel
def acO (a c : Nat) : Prop := (a = 0 ∧ c = 4) ∨ (a = 4 ∧ c = 3)
theorem bc_full {a c t k : Nat} (h : acO a c) (ht : t < 128) (hb : bc7 a c t = c) (h1 : a ≤ k) (h2 : k < a + c) : t.testBit k = true := by
  rcases h with ⟨rfl, rfl⟩ | ⟨rfl, rfl⟩
  · exact (bc_full0 ⟨t, ht⟩ ⟨k, by omega⟩).1 hb (by simp; omega)
  · exact (bc_full0 ⟨t, ht⟩ ⟨k, by omega⟩).2 hb (by simp; omega)
theorem bc_up {a c t k : Nat} (h : acO a c) (ht : t < 128) (hb : t.testBit k = false) (h1 : a ≤ k) (h2 : k < a + c) : bc7 a c (t ||| (1 <<< k)) = bc7 a c t + 1 := by
  rcases h with ⟨rfl, rfl⟩ | ⟨rfl, rfl⟩
  · exact (bc_up0 ⟨t, ht⟩ ⟨k, by omega⟩ hb).1 (by simp; omega)
  · exact (bc_up0 ⟨t, ht⟩ ⟨k, by omega⟩ hb).2 (by simp; omega)
section HLP
variable (n : Nat) (tb : Nat → Nat)
def numR (lo hi p : Nat) : Nat ⊕ (Nat × Nat) := match numA n tb 2 (sk n tb p) with
  | .inl e => .inl e
  | .inr (p', v) => if lo ≤ v ∧ v ≤ hi then .inr (p', v) else .inl (p' - 1)
def itm (a c b : Nat) : Option Nat := match ixN ixH b with
  | none => none
  | some k => if a ≤ k ∧ k < a + c then some k else none
def pIt (a c : Nat) : Nat → Nat → Nat → (Nat → Nat) → Nat ⊕ (Nat × (Nat → Nat))
  | 0, p, _, v => .inr (sk n tb p, v)
  | m + 1, p, t, v => match itm a c (chA n tb (sk n tb p)) with
    | none => .inr (sk n tb p, v)
    | some k => if t.testBit k = true then .inr (sk n tb p, v) else match numR n tb (lsL k) (lsM k) (sk n tb p + 1) with
      | .inl e => .inl e
      | .inr (p', u) => pIt a c m p' (t ||| (1 <<< k)) (setN v k u)
abbrev HS : Type := Bool × Nat × (Nat → Nat) × (Nat → Nat → Nat)
def whB (s : HS) : Bool := decide (0 < s.2.1) && (List.range s.2.1).all (fun b => decide (s.2.2.2 b 0 ≤ s.2.2.1 0) && decide (s.2.2.2 b 1 ≤ s.2.2.1 1))
def hsR (s : HS) (v : Nat → Nat) : HS := (true, s.2.1, v, s.2.2.2)
def hsB (s : HS) (v : Nat → Nat) : HS := (s.1, s.2.1 + 1, s.2.2.1, fun b => if b = s.2.1 then (fun k => v (4 + k)) else s.2.2.2 b)
def pCl (p : Nat) (s : HS) : Nat ⊕ (Nat × HS) :=
  if chA n tb (sk n tb p) = 114 ∧ s.1 = false then (match pIt n tb 0 4 4 (sk n tb p + 1) 0 lsU with | .inl e => .inl e | .inr (p', v) => .inr (p', hsR s v))
  else if chA n tb (sk n tb p) = 98 ∧ s.2.1 < 6 then (match pIt n tb 4 3 3 (sk n tb p + 1) 0 lsU with | .inl e => .inl e | .inr (p', v) => .inr (p', hsB s v))
  else .inl (sk n tb p)
def pH : Nat → Nat → HS → Nat ⊕ HS
  | 0, p, _ => .inl (sk n tb p)
  | m + 1, p, s => match pCl n tb p s with
    | .inl e => .inl e
    | .inr (p', s') => if chA n tb (sk n tb p') = 0 then (if whB s' = true then .inr s' else .inl n) else if chA n tb (sk n tb p') = 59 then pH m (sk n tb p' + 1) s' else .inl (sk n tb p')
def hs0 : HS := (false, 0, lsU, fun _ _ => 0)
def pHall : Nat ⊕ HS := pH n tb 7 0 hs0
end HLP
section HLC
variable {n : Nat} {tb : Nat → Nat}
theorem numR_bd {lo hi p : Nat} (hp : p ≤ n) : (∀ e, numR n tb lo hi p = .inl e → e ≤ n) ∧ (∀ p' u, numR n tb lo hi p = .inr (p', u) → p < p' ∧ p' ≤ n ∧ lo ≤ u ∧ u ≤ hi) := by
  have s1 := sk_ge (tb := tb) hp
  have s2 := sk_le (tb := tb) hp
  unfold numR numA
  by_cases h : dgB n tb (sk n tb p) = true
  · rw [if_pos h]
    obtain ⟨b1, b2⟩ := nmF_bd (n := n) (tb := tb) 2 (sk n tb p) 0 s2
    cases e1 : nmF n tb 2 (sk n tb p) 0 with
    | inl e =>
      simp only
      refine ⟨fun e' he => ?_, fun p' u he => (by cases he)⟩
      cases he
      exact (b1 e e1).2
    | inr r =>
      obtain ⟨p', v⟩ := r
      obtain ⟨a1, a2, a3, -⟩ := b2 p' v e1
      have a4 : sk n tb p < p' := by
        have : nmF n tb 2 (sk n tb p) 0 = nmF n tb 1 (sk n tb p + 1) (10 * 0 + (tb (sk n tb p) - 48)) := by
          conv => lhs; unfold nmF
          rw [if_pos h]
        rw [this] at e1
        have d := (dg_ch h).1
        have := ((nmF_bd (n := n) (tb := tb) 1 (sk n tb p + 1) (10 * 0 + (tb (sk n tb p) - 48)) (by omega)).2 p' v e1).1
        omega
      simp only
      by_cases q : lo ≤ v ∧ v ≤ hi
      · rw [if_pos q]
        refine ⟨fun e' he => (by cases he), fun p'' u he => ?_⟩
        cases he; omega
      · rw [if_neg q]
        refine ⟨fun e' he => ?_, fun p'' u he => (by cases he)⟩
        cases he; omega
  · rw [if_neg h]
    refine ⟨fun e' he => ?_, fun p'' u he => (by cases he)⟩
    cases he; exact s2
theorem pIt_bd {a c : Nat} : ∀ (m p t : Nat) (v : Nat → Nat), p ≤ n → (∀ k, k < 7 → lsL k ≤ v k ∧ v k ≤ lsM k) → (∀ e, pIt n tb a c m p t v = .inl e → e ≤ n) ∧ (∀ p' u, pIt n tb a c m p t v = .inr (p', u) → p ≤ p' ∧ p' ≤ n ∧ ∀ k, k < 7 → lsL k ≤ u k ∧ u k ≤ lsM k)
  | 0, p, t, v, hp, hv => by
    unfold pIt
    refine ⟨fun e' he => (by cases he), fun p'' u he => ?_⟩
    cases he; exact ⟨sk_ge hp, sk_le hp, hv⟩
  | m + 1, p, t, v, hp, hv => by
    unfold pIt
    have s1 := sk_ge (tb := tb) hp
    have s2 := sk_le (tb := tb) hp
    have stop : (∀ e, (Sum.inr (sk n tb p, v) : Nat ⊕ (Nat × (Nat → Nat))) = .inl e → e ≤ n) ∧ (∀ p' u, (Sum.inr (sk n tb p, v) : Nat ⊕ (Nat × (Nat → Nat))) = .inr (p', u) → p ≤ p' ∧ p' ≤ n ∧ ∀ k, k < 7 → lsL k ≤ u k ∧ u k ≤ lsM k) := by
      refine ⟨fun e' he => (by cases he), fun p'' u he => ?_⟩
      cases he; exact ⟨s1, s2, hv⟩
    cases e1 : itm a c (chA n tb (sk n tb p)) with
    | none => exact stop
    | some k =>
      simp only
      by_cases q : t.testBit k = true
      · rw [if_pos q]; exact stop
      · rw [if_neg q]
        have hlt : sk n tb p < n := by
          by_cases z : sk n tb p < n
          · exact z
          · have : chA n tb (sk n tb p) = 0 := by unfold chA; rw [if_neg z]
            rw [this] at e1
            unfold itm at e1
            rw [show ixN ixH 0 = none from by decide] at e1
            cases e1
        obtain ⟨b1, b2⟩ := numR_bd (n := n) (tb := tb) (lo := lsL k) (hi := lsM k) (p := sk n tb p + 1) (by omega)
        cases e2 : numR n tb (lsL k) (lsM k) (sk n tb p + 1) with
        | inl e =>
          simp only
          refine ⟨fun e' he => ?_, fun p'' u he => (by cases he)⟩
          cases he; exact b1 e e2
        | inr r =>
          obtain ⟨p', u⟩ := r
          obtain ⟨a1, a2, a3, a4⟩ := b2 p' u e2
          simp only
          obtain ⟨c1, c2⟩ := pIt_bd (a := a) (c := c) m p' (t ||| (1 <<< k)) (setN v k u) a2 (fun j hj => by
            unfold setN
            by_cases z : j = k
            · rw [if_pos z, z]; exact ⟨a3, a4⟩
            · rw [if_neg z]; exact hv j hj)
          exact ⟨c1, fun p'' u' he => by obtain ⟨d1, d2, d3⟩ := c2 p'' u' he; exact ⟨by omega, d2, d3⟩⟩
def V9 (a c : Nat) (v : Nat → Nat) (hc : rx_Hp) : Prop := ∀ k, a ≤ k → k < a + c → hc.2.1 9 k = zI (v k)
theorem ri_c {G : rx_Gh} {F : Int32 → rx_Hp → Prop} (ok : TOk n tb) {a c : Nat} (ho : acO a c) : ∀ (m i p t : Nat) (v : Nat → Nat) (hc : rx_Hp), i + m = c → p ≤ n → t < 128 → bc7 a c t + m = c → AtC n tb p hc → V9 a c v hc → (∀ e h', pIt n tb a c m p t v = .inl e → AtC n tb e h' → Fr [(1, 2)] [9] hc h' → F 0 h') → (∀ p' u h', pIt n tb a c m p t v = .inr (p', u) → AtC n tb p' h' → V9 a c u h' → Fr [(1, 2)] [9] hc h' → F 1 h') → Rn wC G 8 q_HR_readItems 33 [some (.ref 8), some (.int (zI a)), some (.int (zI ((a + c : Nat) : Int))), some (.int (zI t)), some (.int (zI i)), none, none] [] hc (rI F) := by
  have o1 := ok.1
  have oac : a + c ≤ 7 ∧ c ≤ 4 := by rcases ho with ⟨rfl, rfl⟩ | ⟨rfl, rfl⟩ <;> omega
  intro m
  induction m with
  | zero =>
    intro i p t v hc hi hp ht hb T V Kl Kr
    have cl := chA_le ok (sk n tb p)
    have hcn : ¬ (zI ((a + c : Nat) : Int) - zI (a : Int)) < zI (i : Int) := by rw [zI_sub, zI_lt (by omega) (by omega)]; omega
    refine w_HR_readItems_33 _ _ _ _ ⟨fun c => absurd c hcn, fun _ => look_c ok hp T (fun h1 T1 f1 => ?_)⟩
    rw [i2c_ok ⟨chA n tb (sk n tb p), by omega⟩]
    refine ix_h (by omega) ?_
    have K := Kr (sk n tb p) v h1 (by unfold pIt; rfl) T1 (fun k k1 k2 => by rw [f1.2.1 9 (by decide)]; exact V k k1 k2) (f1.mono (by decide) (by decide))
    cases e1 : ixN ixH (chA n tb (sk n tb p)) with
    | none =>
      refine ⟨fun _ => K, fun c => absurd ?_ c⟩
      show (-1 : Int32) < zI a
      rw [show (-1 : Int32) = zI (-1) from by decide, zI_lt (by omega) (by omega)]; omega
    | some k =>
      have k7 := ixH_7 cl e1
      show (zI (k : Int) < zI (a : Int) → F 1 h1) ∧ _
      refine ⟨fun _ => K, fun c1 => ⟨fun _ => K, fun c2 => ⟨fun _ => K, fun c3 => ?_⟩⟩⟩
      have c1 := mtn (zI_lt (a := (k : Int)) (b := (a : Int)) (by omega) (by omega)) c1
      have c2 : ¬ zI ((a + c : Nat) : Int) ≤ zI (k : Int) := c2
      rw [zI_le (by omega) (by omega)] at c2
      exact absurd ((bit_t ht k7).mpr (bc_full ho ht (by omega) (by omega) (by omega))) c3
  | succ m ih =>
    intro i p t v hc hi hp ht hb T V Kl Kr
    have cl := chA_le ok (sk n tb p)
    have s2 := sk_le (tb := tb) hp
    have hcn : ¬ (zI ((a + c : Nat) : Int) - zI (a : Int)) < zI (i : Int) := by rw [zI_sub, zI_lt (by omega) (by omega)]; omega
    refine w_HR_readItems_33 _ _ _ _ ⟨fun c => absurd c hcn, fun _ => look_c ok hp T (fun h1 T1 f1 => ?_)⟩
    rw [i2c_ok ⟨chA n tb (sk n tb p), by omega⟩]
    refine ix_h (by omega) ?_
    have V1 : V9 a c v h1 := fun k k1 k2 => by rw [f1.2.1 9 (by decide)]; exact V k k1 k2
    have fr1 : Fr [(1, 2)] [9] hc h1 := f1.mono (by decide) (by decide)
    have K0 : (∀ k, ixN ixH (chA n tb (sk n tb p)) = some k → ¬ (a ≤ k ∧ k < a + c ∧ t.testBit k = false)) → F 1 h1 := by
      intro hz
      refine Kr (sk n tb p) v h1 ?_ T1 V1 fr1
      unfold pIt itm
      cases e1 : ixN ixH (chA n tb (sk n tb p)) with
      | none => rfl
      | some k =>
        simp only
        have hz := hz k e1
        by_cases q : a ≤ k ∧ k < a + c
        · rw [if_pos q]
          simp only
          rw [if_pos]
          cases z : t.testBit k with
          | true => rfl
          | false => exact absurd ⟨q.1, q.2, z⟩ hz
        · rw [if_neg q]
    cases e1 : ixN ixH (chA n tb (sk n tb p)) with
    | none =>
      have K := K0 (fun k hk => by rw [e1] at hk; cases hk)
      refine ⟨fun _ => K, fun c => absurd ?_ c⟩
      show (-1 : Int32) < zI a
      rw [show (-1 : Int32) = zI (-1) from by decide, zI_lt (by omega) (by omega)]; omega
    | some k =>
      have k7 := ixH_7 cl e1
      have bl := ls_bd ⟨k, k7⟩
      simp only at bl
      obtain ⟨-, l2, l3⟩ := ls_ok ⟨k, k7⟩
      simp only at l2 l3
      have e3 : ∀ k', ixN ixH (chA n tb (sk n tb p)) = some k' → k' = k := fun k' h => by rw [e1] at h; exact (Option.some.inj h).symm
      show (zI (k : Int) < zI (a : Int) → F 1 h1) ∧ _
      have hlt : sk n tb p < n := by
        by_cases z : sk n tb p < n
        · exact z
        · have : chA n tb (sk n tb p) = 0 := by unfold chA; rw [if_neg z]
          rw [this] at e1
          rw [show ixN ixH 0 = none from by decide] at e1
          cases e1
      refine ⟨fun c1 => K0 (fun k' h => ?_), fun c1 => ⟨fun c2 => K0 (fun k' h => ?_), fun c2 => ⟨fun c3 => K0 (fun k' h => ?_), fun c3 => ?_⟩⟩⟩
      · have c1 := (zI_lt (a := (k : Int)) (b := (a : Int)) (by omega) (by omega)).mp c1
        rw [e3 k' h]; omega
      · have c2 : zI ((a + c : Nat) : Int) ≤ zI (k : Int) := c2
        rw [zI_le (by omega) (by omega)] at c2
        rw [e3 k' h]; omega
      · have c3 := (bit_t ht k7).mp c3
        rw [e3 k' h, c3]; simp
      · have c1 := mtn (zI_lt (a := (k : Int)) (b := (a : Int)) (by omega) (by omega)) c1
        have c2 : ¬ zI ((a + c : Nat) : Int) ≤ zI (k : Int) := c2
        rw [zI_le (by omega) (by omega)] at c2
        have c3 : t.testBit k = false := by
          cases z : t.testBit k with
          | false => rfl
          | true => exact absurd ((bit_t ht k7).mpr z) c3
        have ep : pIt n tb a c (m + 1) p t v = (match numR n tb (lsL k) (lsM k) (sk n tb p + 1) with | .inl e => .inl e | .inr (p', u) => pIt n tb a c m p' (t ||| (1 <<< k)) (setN v k u)) := by
          conv => lhs; unfold pIt
          have ei : itm a c (chA n tb (sk n tb p)) = some k := by unfold itm; rw [e1]; simp only; rw [if_pos ⟨by omega, by omega⟩]
          rw [ei]
          simp only
          rw [if_neg (by rw [c3]; decide)]
        rw [ep] at Kl Kr
        unfold numR at Kl Kr
        have T2 : AtC n tb (sk n tb p + 1) (rx_pf h1 1 2 (h1.1 1 2 + 1)) := T1.to (by rw [T1.2]; exact zI_add _ 1)
        have fr2 : Fr [(1, 2)] [9] hc (rx_pf h1 1 2 (h1.1 1 2 + 1)) := fr1.pf (by decide)
        refine look_c ok (by omega) T2 (fun h3 T3 f3 => ?_)
        have fr3 := fr2.tr (f3.mono (by decide) (by decide) : Fr [(1, 2)] [9] _ h3)
        have s3 := sk_le (n := n) (tb := tb) (p := sk n tb p + 1) (by omega)
        have s4 := sk_ge (n := n) (tb := tb) (p := sk n tb p + 1) (by omega)
        rw [show (2 : Int32) = zI ((2 : Nat) : Int) from by decide]
        refine num_c ok (by omega) (by omega) s3 T3 (fun e h5 he T5 f5 => ?_) (fun p' u h5 he T5 f5 => ?_)
        · rw [he] at Kl
          exact ⟨fun _ => Kl e h5 rfl T5 (fr3.tr (f5.mono (by decide) (by decide))), fun c => absurd rfl c⟩
        · rw [he] at Kl Kr
          simp only at Kl Kr
          have fr5 := fr3.tr (f5.mono (by decide) (by decide) : Fr [(1, 2)] [9] _ h5)
          have pb : sk n tb (sk n tb p + 1) ≤ p' ∧ p' ≤ n ∧ u < 100 ∧ 1 ≤ p' := by
            unfold numA at he
            by_cases h : dgB n tb (sk n tb (sk n tb p + 1)) = true
            · rw [if_pos h] at he
              obtain ⟨b1, b2, b3, b4⟩ := (nmF_bd (n := n) (tb := tb) 2 _ 0 s3).2 p' u he
              exact ⟨b1, b2, by simpa using b4, by omega⟩
            · rw [if_neg h] at he; cases he
          have nm1 : ¬ zI (u : Int) = -1 := by rw [show (-1 : Int32) = zI (-1) from by decide, zI_eq (by omega) (by omega)]; omega
          have Tm : AtC n tb (p' - 1) (rx_pf h5 1 2 (h5.1 1 2 - 1)) := T5.to (by rw [T5.2, show (1 : Int32) = zI ((1 : Nat) : Int) from by decide, zI_subN pb.2.2.2])
          have frm : Fr [(1, 2)] [9] hc (rx_pf h5 1 2 (h5.1 1 2 - 1)) := fr5.pf (by decide)
          have ek : (ixZ (some k)).toNatClampNeg = k := zI_cN (by omega)
          refine ⟨fun c => absurd c nm1, fun _ => ⟨vp_N k7 (by omega), ?_⟩⟩
          rw [ek, l2, l3, zI_lt (by omega) (by omega), zI_le (by omega) (by omega), show ixZ (some k) = zI (k : Int) from rfl]
          have bo := bit_o0 ⟨t, ht⟩ ⟨k, k7⟩
          simp only at bo
          refine ⟨fun d => ?_, fun d => ⟨fun d2 => ?_, fun d2 => ?_⟩⟩
          · rw [if_neg (by omega)] at Kl
            exact Kl (p' - 1) _ rfl Tm frm
          · rw [if_pos ⟨by omega, by omega⟩] at Kl Kr
            rw [bo.1, show zI (i : Int) + 1 = zI ((i + 1 : Nat) : Int) from zI_add i 1]
            have fr6 : Fr [(1, 2)] [9] hc (rx_pa h5 9 k (zI u)) := fr5.pa (by decide)
            refine ih (i + 1) p' (t ||| (1 <<< k)) (setN v k u) _ (by omega) pb.2.1 bo.2 ?_ (T5.fr (Fr.rf.pa (by decide) : Fr [] [9] h5 _)) (fun j j1 j2 => ?_) (fun e h' he' T' f' => Kl e h' he' T' (fr6.tr f')) (fun p'' u' h' he' T' V' f' => Kr p'' u' h' he' T' V' (fr6.tr f'))
            · rw [bc_up ho ht c3 (by omega) (by omega)]; omega
            · unfold setN
              by_cases z : j = k
              · subst z; rw [pa_same, if_pos rfl]
              · rw [pa_ne _ _ (by simp [z]), if_neg z]
                have e9 : h5.2.1 9 j = hc.2.1 9 j := by
                  rw [f5.2.1 9 (by decide), f3.2.1 9 (by decide)]
                  show h1.2.1 9 j = _
                  rw [f1.2.1 9 (by decide)]
                rw [e9]; exact V j j1 j2
          · rw [if_neg (by omega)] at Kl
            exact Kl (p' - 1) _ rfl Tm frm
end HLC

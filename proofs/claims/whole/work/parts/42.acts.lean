/-! the acts: a ring of rows, a shifted row of rows -/
def vpos (nb p : Nat) : Prop := p = 12 ∨ p < 2 * nb
def rowN (g : Nat) (X Y : Nat → Nat) (p : Nat) : Nat := if p = 12 then g else if p % 2 = 0 then X (p / 2) else Y (p / 2)
def AOk (nb w h na : Nat) (R : Nat → Nat → Nat) : Prop := na ≤ 40 ∧ ∀ k, k < na → R k 12 < 16 ∧ ∀ b, b < nb → R k (2 * b) ≤ w ∧ R k (2 * b + 1) ≤ h
def AC (nb na nx : Nat) (R : Nat → Nat → Nat) (hc : rx_Hp) : Prop := nx < 40 ∧ hc.1 37 2 = zI na ∧ hc.1 37 1 = zI nx ∧ ∀ k, k < na → ∀ p, vpos nb p → hc.2.1 38 (((nx + 40 - na + k) % 40) * 13 + p) = zI (R k p)
def AM (nb na : Nat) (R : Nat → Nat → Nat) (hm : rx_Hp) : Prop := hm.1 0 30 = zI na ∧ ∀ k, k < na → ∀ p, vpos nb p → hm.2.1 16 (k * 13 + p) = zI (R k p)
/-- one row more: the oldest goes, if there are forty -/
def pushN (na : Nat) : Nat := if na < 40 then na + 1 else 40
def pushR (na : Nat) (R : Nat → Nat → Nat) (r : Nat → Nat) : Nat → Nat → Nat := fun k => if na < 40 then (if k < na then R k else r) else (if k < 39 then R (k + 1) else r)
theorem AC.fr {nb na nx : Nat} {R : Nat → Nat → Nat} {a b : rx_Hp} {fs : List (Nat × Nat)} {as : List Nat} (h : AC nb na nx R a) (f : Fr fs as a b) (h1 : (37, 1) ∉ fs ∧ (37, 2) ∉ fs := by decide) (h2 : 38 ∉ as := by decide) : AC nb na nx R b := by
  obtain ⟨q1, q2, q3, q4⟩ := h
  refine ⟨q1, (f.1 37 2 h1.2).trans q2, (f.1 37 1 h1.1).trans q3, fun k hk p hp => ?_⟩
  rw [f.2.1 38 h2]; exact q4 k hk p hp
theorem AM.fr {nb na : Nat} {R : Nat → Nat → Nat} {a b : rx_Hp} {fs : List (Nat × Nat)} {as : List Nat} (h : AM nb na R a) (f : Fr fs as a b) (h1 : (0, 30) ∉ fs := by decide) (h2 : 16 ∉ as := by decide) : AM nb na R b := by
  obtain ⟨q2, q4⟩ := h
  refine ⟨(f.1 0 30 h1).trans q2, fun k hk p hp => ?_⟩
  rw [f.2.1 16 h2]; exact q4 k hk p hp
theorem pushOk {nb w h g t na : Nat} {X Y A : Nat → Nat} {R : Nat → Nat → Nat} (ok : HOk nb w h g t X Y A) (oa : AOk nb w h na R) : AOk nb w h (pushN na) (pushR na R (rowN g X Y)) := by
  obtain ⟨o1, o2, o3, o4, o5, o6, o7⟩ := ok
  obtain ⟨a1, a2⟩ := oa
  have new : rowN g X Y 12 < 16 ∧ ∀ b, b < nb → rowN g X Y (2 * b) ≤ w ∧ rowN g X Y (2 * b + 1) ≤ h := by
    refine ⟨by unfold rowN; rw [if_pos rfl]; exact o4, fun b hb => ?_⟩
    have := o7 b hb
    unfold rowN
    rw [if_neg (by omega), if_pos (by omega), if_neg (by omega), if_neg (by omega), show 2 * b / 2 = b by omega, show (2 * b + 1) / 2 = b by omega]
    omega
  unfold pushN pushR
  refine ⟨by split <;> omega, fun k hk => ?_⟩
  by_cases h4 : na < 40
  · simp only [if_pos h4] at hk ⊢
    by_cases hk2 : k < na
    · simp only [if_pos hk2]; exact a2 k hk2
    · simp only [if_neg hk2]; exact new
  · simp only [if_neg h4] at hk ⊢
    by_cases hk2 : k < 39
    · simp only [if_pos hk2]; exact a2 (k + 1) (by omega)
    · simp only [if_neg hk2]; exact new
theorem wrP_in {f : Nat → Int32} {fr n i : Nat} {r : Nat → Int32} (h1 : fr ≤ i) (h2 : i < fr + n) : wrP f fr r n i = r (i - fr) := by unfold wrP; rw [if_pos ⟨h1, h2⟩]
theorem wrP_out {f : Nat → Int32} {fr n i : Nat} {r : Nat → Int32} (h : i < fr ∨ fr + n ≤ i) : wrP f fr r n i = f i := by unfold wrP; rw [if_neg (by omega)]
theorem rowF_z {nb : Nat} {xs ys : Nat → Int32} {gl : Int32} {g : Nat} {X Y : Nat → Nat} (hx : ∀ b, b < nb → xs b = zI (X b)) (hy : ∀ b, b < nb → ys b = zI (Y b)) (hg : gl = zI g) {p : Nat} (hp : vpos nb p) : rowF xs ys gl p = zI (rowN g X Y p) := by
  unfold rowF rowN
  by_cases h1 : p = 12
  · rw [if_pos h1, if_pos h1, hg]
  · rw [if_neg h1, if_neg h1]
    have h2 : p < 2 * nb := by rcases hp with h | h; exact absurd h h1; exact h
    by_cases h3 : p % 2 = 0
    · rw [if_pos h3, if_pos h3]; exact hx _ (by omega)
    · rw [if_neg h3, if_neg h3]; exact hy _ (by omega)
theorem vpos_lt {nb p : Nat} (h6 : nb ≤ 6) (h : vpos nb p) : p < 13 := by rcases h with h | h <;> omega
section ACT
variable {nb w h g t na nx : Nat} {X Y A : Nat → Nat} {R : Nat → Nat → Nat} {hc hm : rx_Hp}
theorem rem_c (ok : HOk nb w h g t X Y A) (H : HC nb w h g t X Y A hc) (hn : na ≤ 40) (a : AC nb na nx R hc) : p_Ac_remember hc ∧ Fr [(37, 1), (37, 2)] [38] hc (g_Ac_remember hc) ∧ ∃ nx', AC nb (pushN na) nx' (pushR na R (rowN g X Y)) (g_Ac_remember hc) := by
  have h6 := ok.1
  obtain ⟨a1, a2, a3, a4⟩ := a
  have e1 : hc.1 37 1 * 13 = zI ((nx * 13 : Nat) : Int) := by rw [a3, show (13 : Int32) = zI 13 from by decide, zI_mul]; rfl
  have e2 : (zI ((nx * 13 : Nat) : Int)).toInt.toNat = nx * 13 := zI_back (by omega)
  have eW : g_Ha_writeTo_38 (hc.1 37 1 * 13) hc = rx_se hc 38 (wrP (hc.2.1 38) (nx * 13) (rowF (hc.2.1 4) (hc.2.1 5) (hc.1 3 7)) 13) := by
    unfold g_Ha_writeTo_38
    rw [e1, e2]
  refine ⟨?_, ?_⟩
  · unfold p_Ac_remember p_Ha_writeTo_38
    rw [e1, zI_toInt (by omega) (by omega)]; omega
  · unfold g_Ac_remember
    rw [eW]
    have w2 : (rx_se hc 38 (wrP (hc.2.1 38) (nx * 13) (rowF (hc.2.1 4) (hc.2.1 5) (hc.1 3 7)) 13)).1 37 2 = zI na := a2
    have w1 : (rx_se hc 38 (wrP (hc.2.1 38) (nx * 13) (rowF (hc.2.1 4) (hc.2.1 5) (hc.1 3 7)) 13)).1 37 1 = zI nx := a3
    rw [w2, w1, show (40 : Int32) = zI 40 from by decide, show (1 : Int32) = zI 1 from by decide, zI_add, zI_add]
    have c40 : zI 40 ≤ zI (na : Int) ↔ 40 ≤ na := by rw [zI_le (by omega) (by omega)]; omega
    have cn : zI 40 ≤ zI ((nx : Int) + 1) ↔ 39 ≤ nx := by rw [zI_le (by omega) (by omega)]; omega
    simp only [c40, cn]
    have enx : (if 39 ≤ nx then (0 : Int32) else zI ((nx : Int) + 1)) = zI (((nx + 1) % 40 : Nat) : Int) := by
      by_cases q : 39 ≤ nx
      · rw [if_pos q, show (nx + 1) % 40 = 0 by omega]; decide
      · rw [if_neg q, show (nx + 1) % 40 = nx + 1 by omega]; rfl
    rw [enx]
    have row : ∀ p, vpos nb p → wrP (hc.2.1 38) (nx * 13) (rowF (hc.2.1 4) (hc.2.1 5) (hc.1 3 7)) 13 (nx * 13 + p) = zI (rowN g X Y p) := by
      intro p hp
      have := vpos_lt h6 hp
      rw [wrP_in (by omega) (by omega), show nx * 13 + p - nx * 13 = p by omega]
      exact rowF_z (fun b hb => (H.2.1 b hb).1) (fun b hb => (H.2.1 b hb).2.1) H.1.2.2.2.1 hp
    have oth : ∀ j p, j ≠ nx → p < 13 → wrP (hc.2.1 38) (nx * 13) (rowF (hc.2.1 4) (hc.2.1 5) (hc.1 3 7)) 13 (j * 13 + p) = hc.2.1 38 (j * 13 + p) := by
      intro j p hj hp
      exact wrP_out (by omega)
    by_cases q : 40 ≤ na
    · rw [if_pos q]
      have hna : na = 40 := by omega
      subst hna
      refine ⟨(Fr.rf.sa (by decide)).pf (by decide), (nx + 1) % 40, by omega, ?_, ?_, fun k hk p hp => ?_⟩
      · rw [pf_ne _ _ (by decide), sa_f, a2]; rfl
      · rw [pf_same]
      · rw [pf_a, sa_same]
        have hk : k < 40 := hk
        have hp13 := vpos_lt h6 hp
        unfold pushN pushR
        rw [if_neg (by omega), if_neg (by omega)]
        by_cases hk2 : k < 39
        · rw [if_pos hk2, ← a4 (k + 1) (by omega) p hp, show ((nx + 1) % 40 + 40 - 40 + k) % 40 = (nx + 40 - 40 + (k + 1)) % 40 by omega]
          exact oth _ p (by omega) hp13
        · rw [if_neg hk2, show ((nx + 1) % 40 + 40 - 40 + k) % 40 = nx by omega]
          exact row p hp
    · rw [if_neg q]
      refine ⟨((Fr.rf.sa (by decide)).pf (by decide)).pf (by decide), (nx + 1) % 40, by omega, ?_, ?_, fun k hk p hp => ?_⟩
      · unfold pushN
        rw [pf_same, if_pos (by omega)]; rfl
      · rw [pf_ne _ _ (by decide), pf_same]
      · rw [pf_a, pf_a, sa_same]
        have hp13 := vpos_lt h6 hp
        unfold pushN at hk ⊢
        unfold pushR
        rw [if_pos (by omega)] at hk
        rw [if_pos (by omega), if_pos (by omega)]
        by_cases hk2 : k < na
        · rw [if_pos hk2, ← a4 k hk2 p hp, show ((nx + 1) % 40 + 40 - (na + 1) + k) % 40 = (nx + 40 - na + k) % 40 by omega]
          exact oth _ p (by omega) hp13
        · rw [if_neg hk2, show ((nx + 1) % 40 + 40 - (na + 1) + k) % 40 = nx by omega]
          exact row p hp
end ACT

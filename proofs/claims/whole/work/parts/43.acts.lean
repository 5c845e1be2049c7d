/-! keepAct (model), taking back (both sides) -/
def shP (f : Nat → Int32) (n : Nat) : Nat → Int32 := fun i => if i + 13 < n then f (i + 13) else f i
theorem shP_0 (f : Nat → Int32) : shP f 13 = f := by funext i; unfold shP; rw [if_neg (by omega)]
theorem shP_s (f : Nat → Int32) {n : Nat} (hn : 13 ≤ n) : upd (shP f n) (n - 13) (shP f n n) = shP f (n + 1) := by
  funext i
  unfold upd shP
  rw [if_neg (show ¬ n + 13 < n by omega)]
  by_cases h : i = n - 13
  · rw [if_pos h, if_pos (by omega), show i + 13 = n by omega]
  · rw [if_neg h]
    by_cases h2 : i + 13 < n
    · rw [if_pos h2, if_pos (by omega)]
    · rw [if_neg h2, if_neg (by omega)]
section ACM
variable {nb w h g t na nx : Nat} {X Y A : Nat → Nat} {R : Nat → Nat → Nat} {hc hm : rx_Hp}
theorem keep_loop {G : rx_Gh} {F : rx_Hp → Prop} {hp : rx_Hp} (K : Rn wM G 2 q_M_keepAct 12 [some (.ref 0), some (.int (zI (520 : Nat)))] [] (rx_se hp 16 (shP (hp.2.1 16) 520)) (rV F)) : ∀ (m n : Nat), n + m = 520 → 13 ≤ n → Rn wM G 2 q_M_keepAct 12 [some (.ref 0), some (.int (zI n))] [] (rx_se hp 16 (shP (hp.2.1 16) n)) (rV F) := by
  intro m
  induction m with
  | zero =>
    intro n hn _
    rw [show n = 520 by omega]
    exact K
  | succ m ih =>
    intro n hn h13
    have hc : ¬ 520 ≤ zI (n : Int) := by rw [show (520 : Int32) = zI 520 from by decide, zI_le (by omega) (by omega)]; omega
    refine w_M_keepAct_12 _ ⟨fun c => absurd c hc, fun _ => ?_⟩
    rw [show (13 : Int32) = zI ((13 : Nat) : Int) from by decide, zI_subN h13, show zI (n : Int) + 1 = zI ((n + 1 : Nat) : Int) from zI_add n 1]
    refine ⟨vp_N (by omega) (by omega), vp_N (by omega) (by omega), ?_⟩
    rw [zI_cN (by omega), zI_cN (by omega), sa_pa, sa_same, shP_s _ h13]
    exact ih (n + 1) (by omega) (by omega)
theorem keepAct_m {G : rx_Gh} {F : rx_Hp → Prop} (ok : HOk nb w h g t X Y A) (H : HM nb w h g t X Y A hm) (hn : na ≤ 40) (a : AM nb na R hm) (K : ∀ hp, Fr [(0, 30)] [16] hm hp → AM nb (pushN na) (pushR na R (rowN g X Y)) hp → F hp) : Ev wM G 2 q_M_keepAct [.ref 0] hm (rV F) := by
  have h6 := ok.1
  obtain ⟨a1, a2⟩ := a
  have rowz : ∀ p, vpos nb p → rowF (hm.2.1 13) (hm.2.1 14) (hm.1 0 26) p = zI (rowN g X Y p) := fun p hp => rowF_z (fun b hb => (H.2 b hb).1) (fun b hb => (H.2 b hb).2.1) H.1.2.2.2.1 hp
  have c40 : hm.1 0 30 = 40 ↔ na = 40 := by rw [a1, show (40 : Int32) = zI 40 from by decide, zI_eq (by omega) (by omega)]; omega
  refine w_M_keepAct ⟨fun c => ?_, fun c => ?_⟩
  · have hna := c40.mp c
    subst hna
    have := keep_loop (G := G) (F := F) (hp := hm) ?_ 507 13 (by omega) (by omega)
    · rw [shP_0, sa_self] at this
      exact this
    · refine w_M_keepAct_12 _ ⟨fun _ => ?_, fun c => absurd (show (520 : Int32) ≤ zI ((520 : Nat) : Int) by decide) c⟩
      rw [sa_f, a1, show (1 : Int32) = zI 1 from by decide, zI_sub, show (13 : Int32) = zI 13 from by decide, zI_mul]
      have eA : (zI (13 * (((40 : Nat) : Int) - 1))).toInt.toNat = 507 := by decide
      refine ⟨?_, ?_⟩
      · unfold p_M_write_16; decide
      · unfold g_M_write_16
        rw [eA]
        refine K _ ?_ ?_
        · exact ((((Fr.rf.sa (k := 16) (by decide)).pf (k := 0) (j := 30) (by decide)).sa (k := 16) (by decide)).pf (by decide))
        · refine ⟨?_, fun k hk p hp => ?_⟩
          · rw [pf_same, sa_f, pf_same]; decide
          · have hk : k < 40 := hk
            have hp13 := vpos_lt h6 hp
            rw [pf_a, sa_same, pf_a, sa_same]
            unfold pushR
            rw [if_neg (by omega)]
            by_cases hk2 : k < 39
            · rw [if_pos hk2, wrP_out (by omega)]
              unfold shP
              rw [if_pos (by omega), show k * 13 + p + 13 = (k + 1) * 13 + p by omega]
              exact a2 (k + 1) (by omega) p hp
            · rw [if_neg hk2, wrP_in (by omega) (by omega), show k * 13 + p - 507 = p by omega]
              exact rowz p hp
  · have hna := mtn c40 c
    rw [a1, show (13 : Int32) = zI 13 from by decide, zI_mul]
    have eA : (zI (13 * (na : Int))).toInt.toNat = na * 13 := by rw [zI_toInt (by omega) (by omega)]; omega
    refine ⟨?_, ?_⟩
    · unfold p_M_write_16
      rw [zI_toInt (by omega) (by omega)]; omega
    · unfold g_M_write_16
      rw [eA]
      refine K _ ((Fr.rf.sa (k := 16) (by decide)).pf (by decide)) ⟨?_, fun k hk p hp => ?_⟩
      · unfold pushN
        rw [pf_same, sa_f, a1, if_pos (by omega), show (1 : Int32) = zI 1 from by decide, zI_add]; rfl
      · have hp13 := vpos_lt h6 hp
        rw [pf_a, sa_same]
        unfold pushN at hk
        unfold pushR
        rw [if_pos (by omega)] at hk ⊢
        by_cases hk2 : k < na
        · rw [if_pos hk2, wrP_out (by omega)]
          exact a2 k hk2 p hp
        · rw [if_neg hk2, wrP_in (by omega) (by omega), show k * 13 + p - na * 13 = p by omega]
          exact rowz p hp
/-- the hall out of a row -/
def rX (r : Nat → Nat) (b : Nat) : Nat := r (2 * b)
def rY (r : Nat → Nat) (b : Nat) : Nat := r (2 * b + 1)
theorem rOk {r : Nat → Nat} (ok : HOk nb w h g t X Y A) (h1 : r 12 < 16) (h2 : ∀ b, b < nb → r (2 * b) ≤ w ∧ r (2 * b + 1) ≤ h) : HOk nb w h (r 12) t (rX r) (rY r) A := by
  obtain ⟨o1, o2, o3, o4, o5, o6, o7⟩ := ok
  exact ⟨o1, o2, o3, h1, o5, o6, fun b hb => ⟨(h2 b hb).1, (h2 b hb).2, (o7 b hb).2.2⟩⟩
theorem rdP_in {f r : Nat → Int32} {n i : Nat} (h : i < n) : rdP f r n i = r i := by unfold rdP; rw [if_pos h]
theorem read_c {r : Nat → Nat} {hp : rx_Hp} {a fr : Nat} (ok : HOk nb w h g t X Y A) (H : HC nb w h g t X Y A hp) (hr : ∀ p, vpos nb p → hp.2.1 a (fr + p) = zI (r p)) : HC nb w h (r 12) t (rX r) (rY r) A (rx_pf (rx_se (rx_se hp 4 (rdP (hp.2.1 4) (fun i => hp.2.1 a (fr + 2 * i)) 6)) 5 (rdP (hp.2.1 5) (fun i => hp.2.1 a (fr + 2 * i + 1)) 6)) 3 7 (hp.2.1 a (fr + 12))) := by
  have h6 := ok.1
  obtain ⟨⟨q1, q2, q3, q4, q5⟩, q6, q7⟩ := H
  refine ⟨⟨?_, ?_, ?_, ?_, ?_⟩, fun b hb => ⟨?_, ?_, ?_⟩, fun h0 k hk => ?_⟩
  · rw [pf_ne _ _ (by decide)]; exact q1
  · rw [pf_ne _ _ (by decide)]; exact q2
  · rw [pf_ne _ _ (by decide)]; exact q3
  · rw [pf_same]; exact hr 12 (Or.inl rfl)
  · rw [pf_ne _ _ (by decide)]; exact q5
  · rw [pf_a, sa_ne _ _ (by decide), sa_same, rdP_in (by omega)]
    exact hr (2 * b) (Or.inr (by omega))
  · rw [pf_a, sa_same, rdP_in (by omega)]
    exact hr (2 * b + 1) (Or.inr (by omega))
  · rw [pf_a, sa_ne _ _ (by decide), sa_ne _ _ (by decide)]; exact (q6 b hb).2.2
  · rw [pf_a, sa_ne _ _ (by decide), sa_ne _ _ (by decide)]; exact q7 h0 k hk
theorem read_m {r : Nat → Nat} {hp : rx_Hp} {a fr : Nat} (ok : HOk nb w h g t X Y A) (H : HM nb w h g t X Y A hp) (hr : ∀ p, vpos nb p → hp.2.1 a (fr + p) = zI (r p)) : HM nb w h (r 12) t (rX r) (rY r) A (rx_pf (rx_se (rx_se hp 13 (rdP (hp.2.1 13) (fun i => hp.2.1 a (fr + 2 * i)) 6)) 14 (rdP (hp.2.1 14) (fun i => hp.2.1 a (fr + 2 * i + 1)) 6)) 0 26 (hp.2.1 a (fr + 12))) := by
  have h6 := ok.1
  obtain ⟨⟨q1, q2, q3, q4, q5⟩, q6⟩ := H
  refine ⟨⟨?_, ?_, ?_, ?_, ?_⟩, fun b hb => ⟨?_, ?_, ?_⟩⟩
  · rw [pf_ne _ _ (by decide)]; exact q1
  · rw [pf_ne _ _ (by decide)]; exact q2
  · rw [pf_ne _ _ (by decide)]; exact q3
  · rw [pf_same]; exact hr 12 (Or.inl rfl)
  · rw [pf_ne _ _ (by decide)]; exact q5
  · rw [pf_a, sa_ne _ _ (by decide), sa_same, rdP_in (by omega)]
    exact hr (2 * b) (Or.inr (by omega))
  · rw [pf_a, sa_same, rdP_in (by omega)]
    exact hr (2 * b + 1) (Or.inr (by omega))
  · rw [pf_a, sa_ne _ _ (by decide), sa_ne _ _ (by decide)]; exact (q6 b hb).2.2
end ACM

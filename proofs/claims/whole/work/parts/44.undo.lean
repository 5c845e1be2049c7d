/-! undo, keep, back: both sides -/
def KOk (nb w h kp : Nat) (kr : Nat → Nat) : Prop := kp ≤ 1 ∧ (kp = 1 → kr 12 < 16 ∧ ∀ b, b < nb → kr (2 * b) ≤ w ∧ kr (2 * b + 1) ≤ h)
def KC (nb kp : Nat) (kr : Nat → Nat) (hc : rx_Hp) : Prop := hc.1 0 16 = zI kp ∧ (kp = 1 → ∀ p, vpos nb p → hc.2.1 39 p = zI (kr p))
def KM (nb kp : Nat) (kr : Nat → Nat) (hm : rx_Hp) : Prop := hm.1 0 44 = zI kp ∧ (kp = 1 → ∀ p, vpos nb p → hm.2.1 23 p = zI (kr p))
theorem KC.fr {nb kp : Nat} {kr : Nat → Nat} {a b : rx_Hp} {fs : List (Nat × Nat)} {as : List Nat} (h : KC nb kp kr a) (f : Fr fs as a b) (h1 : (0, 16) ∉ fs := by decide) (h2 : 39 ∉ as := by decide) : KC nb kp kr b :=
  ⟨(f.1 0 16 h1).trans h.1, fun k p hp => by rw [f.2.1 39 h2]; exact h.2 k p hp⟩
theorem KM.fr {nb kp : Nat} {kr : Nat → Nat} {a b : rx_Hp} {fs : List (Nat × Nat)} {as : List Nat} (h : KM nb kp kr a) (f : Fr fs as a b) (h1 : (0, 44) ∉ fs := by decide) (h2 : 23 ∉ as := by decide) : KM nb kp kr b :=
  ⟨(f.1 0 44 h1).trans h.1, fun k p hp => by rw [f.2.1 23 h2]; exact h.2 k p hp⟩
section UND
variable {nb w h g t na nx kp : Nat} {X Y A kr : Nat → Nat} {R : Nat → Nat → Nat} {hc hm : rx_Hp}
theorem a_undo_c {G : rx_Gh} {F : Int32 → rx_Hp → Prop} (ok : HOk nb w h g t X Y A) (H : HC nb w h g t X Y A hc) (hn : na ≤ 40) (a : AC nb na nx R hc) (K0 : na = 0 → F (-1) hc) (K1 : 0 < na → ∀ hp nx', Fr [(37, 1), (37, 2), (3, 7)] [4, 5] hc hp → HC nb w h (R (na - 1) 12) t (rX (R (na - 1))) (rY (R (na - 1))) A hp → AC nb (na - 1) nx' R hp → F (zI ((na - 1 : Nat) : Int)) hp) : Ev wC G 3 q_GR_undo [.ref 0] hc (rI F) := by
  have h6 := ok.1
  obtain ⟨a1, a2, a3, a4⟩ := a
  have c0 : hc.1 37 2 = 0 ↔ na = 0 := by rw [a2]; exact z0_iff (by omega)
  refine w_GR_undo ?_
  unfold p_Ac_takeBack f_Ac_takeBack g_Ac_takeBack
  by_cases q : na = 0
  · have c := c0.mpr q
    refine ⟨fun z => absurd c z, ?_⟩
    rw [if_pos c, if_pos c, if_pos rfl]
    exact K0 q
  · have c := mt c0.mp q
    have enx : (if hc.1 37 1 ≤ 0 then (39 : Int32) else hc.1 37 1 - 1) = zI (((nx + 39) % 40 : Nat) : Int) := by
      have cz : hc.1 37 1 ≤ 0 ↔ nx = 0 := by rw [a3, show (0 : Int32) = zI 0 from by decide, zI_le (by omega) (by omega)]; omega
      by_cases z : nx = 0
      · rw [if_pos (cz.mpr z), z]; decide
      · rw [if_neg (mt cz.mp z), a3, show (1 : Int32) = zI ((1 : Nat) : Int) from by decide, zI_subN (by omega), show (nx + 39) % 40 = nx - 1 by omega]
    rw [if_neg c, if_neg c, if_neg (show ¬ (1 : Int32) = 0 by decide), enx, show (13 : Int32) = zI 13 from by decide, zI_mul, show (((nx + 39) % 40 : Nat) : Int) * 13 = (((nx + 39) % 40 * 13 : Nat) : Int) by omega]
    refine ⟨fun _ => ?_, ?_⟩
    · unfold p_Ha_readFrom_38
      rw [zI_toInt (by omega) (by omega)]; omega
    · unfold g_Ha_readFrom_38
      rw [zI_back (by omega)]
      have fr0 : Fr [(37, 1), (37, 2)] [] hc (rx_pf (rx_pf hc 37 1 (zI (((nx + 39) % 40 : Nat) : Int))) 37 2 (hc.1 37 2 - 1)) := (Fr.rf.pf (by decide)).pf (by decide)
      have H' := H.fr fr0
      have hr : ∀ p, vpos nb p → (rx_pf (rx_pf hc 37 1 (zI (((nx + 39) % 40 : Nat) : Int))) 37 2 (hc.1 37 2 - 1)).2.1 38 ((nx + 39) % 40 * 13 + p) = zI (R (na - 1) p) := by
        intro p hp
        have := a4 (na - 1) (by omega) p hp
        rw [show (nx + 40 - na + (na - 1)) % 40 = (nx + 39) % 40 by omega] at this
        exact this
      have H2 := read_c (a := 38) ok H' hr
      have e2 : hc.1 37 2 - 1 = zI ((na - 1 : Nat) : Int) := by rw [a2, show (1 : Int32) = zI ((1 : Nat) : Int) from by decide, zI_subN (by omega)]
      rw [e2] at H2 ⊢
      rw [show (rx_pf (rx_se (rx_se (rx_pf (rx_pf hc 37 1 (zI (((nx + 39) % 40 : Nat) : Int))) 37 2 (zI ((na - 1 : Nat) : Int))) 4 _) 5 _) 3 7 _).1 37 2 = zI ((na - 1 : Nat) : Int) from by rw [pf_ne _ _ (by decide), sa_f, sa_f, pf_same]]
      refine K1 (by omega) _ ((nx + 39) % 40) ?_ H2 ⟨by omega, ?_, ?_, fun k hk p hp => ?_⟩
      · exact (((((Fr.rf.pf (k := 37) (j := 1) (by decide)).pf (k := 37) (j := 2) (by decide)).sa (k := 4) (by decide)).sa (k := 5) (by decide)).pf (by decide))
      · rw [pf_ne _ _ (by decide), sa_f, sa_f, pf_same]
      · rw [pf_ne _ _ (by decide), sa_f, sa_f, pf_ne _ _ (by decide), pf_same]
      · rw [pf_a, sa_ne _ _ (by decide), sa_ne _ _ (by decide), pf_a, pf_a, show ((nx + 39) % 40 + 40 - (na - 1) + k) % 40 = (nx + 40 - na + k) % 40 by omega]
        exact a4 k (by omega) p hp
theorem a_undo_m {G : rx_Gh} {F : Int32 → rx_Hp → Prop} (ok : HOk nb w h g t X Y A) (H : HM nb w h g t X Y A hm) (hn : na ≤ 40) (a : AM nb na R hm) (K0 : na = 0 → F (-1) hm) (K1 : 0 < na → ∀ hp, Fr [(0, 30), (0, 26)] [13, 14] hm hp → HM nb w h (R (na - 1) 12) t (rX (R (na - 1))) (rY (R (na - 1))) A hp → AM nb (na - 1) R hp → F (zI ((na - 1 : Nat) : Int)) hp) : Ev wM G 2 q_M_undo [.ref 0] hm (rI F) := by
  have h6 := ok.1
  obtain ⟨a2, a4⟩ := a
  have c0 : hm.1 0 30 = 0 ↔ na = 0 := by rw [a2]; exact z0_iff (by omega)
  refine w_M_undo ⟨fun c => K0 (c0.mp c), fun c => ?_⟩
  have q := mtn c0 c
  have e2 : hm.1 0 30 - 1 = zI ((na - 1 : Nat) : Int) := by rw [a2, show (1 : Int32) = zI ((1 : Nat) : Int) from by decide, zI_subN (by omega)]
  rw [e2, show (13 : Int32) = zI 13 from by decide, zI_mul, show (13 : Int) * ((na - 1 : Nat) : Int) = (((na - 1) * 13 : Nat) : Int) by omega]
  refine ⟨?_, ?_⟩
  · unfold p_M_read_16
    rw [zI_toInt (by omega) (by omega)]; omega
  · unfold g_M_read_16
    rw [zI_back (by omega)]
    have H' := H.fr ((Fr.rf (fs := [(0, 30)]) (as := [])).pf (b := hm) (k := 0) (j := 30) (x := zI ((na - 1 : Nat) : Int)) (by decide))
    have hr : ∀ p, vpos nb p → (rx_pf hm 0 30 (zI ((na - 1 : Nat) : Int))).2.1 16 ((na - 1) * 13 + p) = zI (R (na - 1) p) := fun p hp => a4 (na - 1) (by omega) p hp
    have H2 := read_m (a := 16) ok H' hr
    rw [show (rx_pf (rx_se (rx_se (rx_pf hm 0 30 (zI ((na - 1 : Nat) : Int))) 13 _) 14 _) 0 26 _).1 0 30 = zI ((na - 1 : Nat) : Int) from by rw [pf_ne _ _ (by decide), sa_f, sa_f, pf_same]]
    refine K1 (by omega) _ ?_ H2 ⟨?_, fun k hk p hp => ?_⟩
    · exact ((((Fr.rf.pf (k := 0) (j := 30) (by decide)).sa (k := 13) (by decide)).sa (k := 14) (by decide)).pf (by decide))
    · rw [pf_ne _ _ (by decide), sa_f, sa_f, pf_same]
    · rw [pf_a, sa_ne _ _ (by decide), sa_ne _ _ (by decide), pf_a]
      exact a4 k (by omega) p hp
theorem a_keep_c {G : rx_Gh} {F : Int32 → rx_Hp → Prop} (ok : HOk nb w h g t X Y A) (H : HC nb w h g t X Y A hc) (a : AC nb na nx R hc) (K0 : nb = 0 → F (-1) hc) (K1 : 0 < nb → ∀ hp, Fr [(0, 16)] [39] hc hp → KC nb 1 (rowN g X Y) hp → F (zI na) hp) : Ev wC G 2 q_GR_keep [.ref 0] hc (rI F) := by
  have h6 := ok.1
  refine w_GR_keep ?_
  rw [stands_c h6 H.1.1]
  refine ⟨fun c => K0 (by have := (b2_0 _).mp c; simpa using this), fun c => ?_⟩
  have h0 : 0 < nb := by have := b2_t c; simpa using this
  refine ⟨by unfold p_Ha_writeTo_39; decide, ?_⟩
  unfold g_Ha_writeTo_39
  rw [show ((0 : Int32).toInt.toNat) = 0 from by decide, sa_f, a.2.1]
  refine K1 h0 _ ((Fr.rf.sa (by decide)).pf (by decide)) ⟨?_, fun _ p hp => ?_⟩
  · rw [pf_same]; decide
  · have := vpos_lt h6 hp
    rw [pf_a, sa_same, wrP_in (by omega) (by omega), Nat.sub_zero]
    exact rowF_z (fun b hb => (H.2.1 b hb).1) (fun b hb => (H.2.1 b hb).2.1) H.1.2.2.2.1 hp
theorem a_keep_m {G : rx_Gh} {F : Int32 → rx_Hp → Prop} (ok : HOk nb w h g t X Y A) (H : HM nb w h g t X Y A hm) (a : AM nb na R hm) (K0 : nb = 0 → F (-1) hm) (K1 : 0 < nb → ∀ hp, Fr [(0, 44)] [23] hm hp → KM nb 1 (rowN g X Y) hp → F (zI na) hp) : Ev wM G 2 q_M_keep [.ref 0] hm (rI F) := by
  have h6 := ok.1
  have c0 : hm.1 0 23 = 0 ↔ nb = 0 := by rw [H.1.1]; exact z0_iff (by omega)
  refine w_M_keep ⟨fun c => K0 (c0.mp c), fun c => ?_⟩
  refine ⟨by unfold p_M_write_23; decide, ?_⟩
  unfold g_M_write_23
  rw [show ((0 : Int32).toInt.toNat) = 0 from by decide, sa_f, a.1]
  refine K1 (by have := mtn c0 c; omega) _ ((Fr.rf.sa (by decide)).pf (by decide)) ⟨?_, fun _ p hp => ?_⟩
  · rw [pf_same]; decide
  · have := vpos_lt h6 hp
    rw [pf_a, sa_same, wrP_in (by omega) (by omega), Nat.sub_zero]
    exact rowF_z (fun b hb => (H.2 b hb).1) (fun b hb => (H.2 b hb).2.1) H.1.2.2.2.1 hp
theorem a_back_c {G : rx_Gh} {F : Int32 → rx_Hp → Prop} (ok : HOk nb w h g t X Y A) (H : HC nb w h g t X Y A hc) (a : AC nb na nx R hc) (k : KC nb kp kr hc) (hk : kp ≤ 1) (K0 : kp = 0 → F (-1) hc) (K1 : kp = 1 → ∀ hp, Fr [(37, 2), (3, 7)] [4, 5] hc hp → HC nb w h (kr 12) t (rX kr) (rY kr) A hp → AC nb 0 nx R hp → F 0 hp) : Ev wC G 2 q_GR_back [.ref 0] hc (rI F) := by
  have h6 := ok.1
  have c0 : hc.1 0 16 = 0 ↔ kp = 0 := by rw [k.1]; exact z0_iff (by omega)
  refine w_GR_back ⟨fun c => K0 (c0.mp c), fun c => ?_⟩
  have k1 : kp = 1 := by have := mtn c0 c; omega
  refine ⟨by unfold p_Ha_readFrom_39; decide, ?_⟩
  unfold g_Ha_readFrom_39
  rw [show ((0 : Int32).toInt.toNat) = 0 from by decide]
  have hr : ∀ p, vpos nb p → hc.2.1 39 (0 + p) = zI (kr p) := fun p hp => by rw [Nat.zero_add]; exact k.2 k1 p hp
  have H2 := read_c (a := 39) ok H hr
  refine K1 k1 _ ?_ (H2.fr ((Fr.rf (fs := [(37, 2)]) (as := [])).pf (by decide))) ⟨a.1, ?_, ?_, fun k hk => absurd hk (by omega)⟩
  · exact ((((Fr.rf.sa (k := 4) (by decide)).sa (k := 5) (by decide)).pf (k := 3) (j := 7) (by decide)).pf (by decide))
  · rw [pf_same]; decide
  · rw [pf_ne _ _ (by decide), pf_ne _ _ (by decide), sa_f, sa_f]; exact a.2.2.1
theorem a_back_m {G : rx_Gh} {F : Int32 → rx_Hp → Prop} (ok : HOk nb w h g t X Y A) (H : HM nb w h g t X Y A hm) (k : KM nb kp kr hm) (hk : kp ≤ 1) (K0 : kp = 0 → F (-1) hm) (K1 : kp = 1 → ∀ hp, Fr [(0, 30), (0, 26)] [13, 14] hm hp → HM nb w h (kr 12) t (rX kr) (rY kr) A hp → AM nb 0 R hp → F 0 hp) : Ev wM G 2 q_M_back [.ref 0] hm (rI F) := by
  have h6 := ok.1
  have c0 : hm.1 0 44 = 0 ↔ kp = 0 := by rw [k.1]; exact z0_iff (by omega)
  refine w_M_back ⟨fun c => K0 (c0.mp c), fun c => ?_⟩
  have k1 : kp = 1 := by have := mtn c0 c; omega
  refine ⟨by unfold p_M_read_23; decide, ?_⟩
  unfold g_M_read_23
  rw [show ((0 : Int32).toInt.toNat) = 0 from by decide]
  have hr : ∀ p, vpos nb p → hm.2.1 23 (0 + p) = zI (kr p) := fun p hp => by rw [Nat.zero_add]; exact k.2 k1 p hp
  have H2 := read_m (a := 23) ok H hr
  refine K1 k1 _ ?_ (H2.fr ((Fr.rf (fs := [(0, 30)]) (as := [])).pf (by decide))) ⟨?_, fun k hk => absurd hk (by omega)⟩
  · exact ((((Fr.rf.sa (k := 13) (by decide)).sa (k := 14) (by decide)).pf (k := 0) (j := 26) (by decide)).pf (by decide))
  · rw [pf_same]; decide
end UND

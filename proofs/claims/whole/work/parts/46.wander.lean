/-! moving, glass, steps: both sides -/
def insI (w h : Nat) (x y : Int) : Bool := decide (0 ≤ x) && (decide (x ≤ w) && (decide (0 ≤ y) && decide (y ≤ h)))
def setN (X : Nat → Nat) (b v : Nat) : Nat → Nat := fun k => if k = b then v else X k
def dXi (d : Int32) : Int := if d = 1 then 1 else if d = 3 then -1 else 0
def dYi (d : Int32) : Int := if d = 2 then 1 else if d = 4 then -1 else 0
def wnX (w h : Nat) (X Y : Nat → Nat) (b : Nat) (d : Int32) : Nat → Nat := if insI w h (X b + dXi d) (Y b + dYi d) then setN X b (X b + dXi d).toNat else X
def wnY (w h : Nat) (X Y : Nat → Nat) (b : Nat) (d : Int32) : Nat → Nat := if insI w h (X b + dXi d) (Y b + dYi d) then setN Y b (Y b + dYi d).toNat else Y
theorem dX_z (d : Int32) : (if d = 1 then (1 : Int32) else if d = 3 then -1 else 0) = zI (dXi d) := by unfold dXi; (repeat' split) <;> decide
theorem dY_z (d : Int32) : (if d = 2 then (1 : Int32) else if d = 4 then -1 else 0) = zI (dYi d) := by unfold dYi; (repeat' split) <;> decide
theorem dX_bd (d : Int32) : -1 ≤ dXi d ∧ dXi d ≤ 1 := by unfold dXi; (repeat' split) <;> omega
theorem dY_bd (d : Int32) : -1 ≤ dYi d ∧ dYi d ≤ 1 := by unfold dYi; (repeat' split) <;> omega
section WND
variable {nb w h g t na nx : Nat} {X Y A : Nat → Nat} {R : Nat → Nat → Nat} {hc hm : rx_Hp}
theorem ins_c (ok : HOk nb w h g t X Y A) (H : HC nb w h g t X Y A hc) (x y : Int32) : f_Ha_isInside x y hc = b2 (insI w h x.toInt y.toInt) := by
  obtain ⟨o1, o2, o3, o4, o5, o6, o7⟩ := ok
  unfold f_Ha_isInside insI
  rw [H.1.2.1, H.1.2.2.1, show (0 : Int32) = zI 0 from by decide, show (1 : Int32) = zI 1 from by decide]
  simp only [i_lt x 0 (by omega), i_lt' x w (by omega), i_lt y 0 (by omega), i_lt' y h (by omega)]
  unfold b2
  rw [show (0 : Int32) = zI 0 from by decide, show (1 : Int32) = zI 1 from by decide]
  by_cases q1 : x.toInt < 0
  · rw [if_pos q1, if_neg (by simp; omega)]
  · by_cases q2 : (w : Int) < x.toInt
    · rw [if_neg q1, if_pos q2, if_neg (by simp; omega)]
    · by_cases q3 : y.toInt < 0
      · rw [if_neg q1, if_neg q2, if_pos q3, if_neg (by simp; omega)]
      · by_cases q4 : (h : Int) < y.toInt
        · rw [if_neg q1, if_neg q2, if_neg q3, if_pos q4, if_neg (by simp; omega)]
        · rw [if_neg q1, if_neg q2, if_neg q3, if_neg q4, if_pos (by simp; omega)]
theorem ins_m (ok : HOk nb w h g t X Y A) (H : HM nb w h g t X Y A hm) (x y : Int32) : f_M_isInside x y hm = b2 (insI w h x.toInt y.toInt) := by
  obtain ⟨o1, o2, o3, o4, o5, o6, o7⟩ := ok
  have e1 : f_M_in x 0 (zI w) = b2 (decide (0 ≤ x.toInt) && decide (x.toInt ≤ w)) := in_m x (lo := 0) (hi := w) (by omega) (by omega)
  have e2 : f_M_in y 0 (zI h) = b2 (decide (0 ≤ y.toInt) && decide (y.toInt ≤ h)) := in_m y (lo := 0) (hi := h) (by omega) (by omega)
  unfold f_M_isInside insI
  rw [H.1.2.1, H.1.2.2.1, e1, e2, ← Bool.and_assoc]
  generalize (decide (0 ≤ x.toInt) && decide (x.toInt ≤ ↑w)) = u
  generalize (decide (0 ≤ y.toInt) && decide (y.toInt ≤ ↑h)) = v
  cases u <;> cases v <;> simp [b2]
/-- a body set to another place -/
theorem HC.mv (H : HC nb w h g t X Y A hc) {b x y : Nat} (hb : b < nb) : HC nb w h g t (setN X b x) (setN Y b y) A (rx_pa (rx_pa hc 4 b (zI x)) 5 b (zI y)) := by
  obtain ⟨q0, q6, q7⟩ := H
  refine ⟨q0, fun k hk => ⟨?_, ?_, ?_⟩, fun h0 k hk => ?_⟩
  · unfold setN
    rw [pa_ne _ _ (by simp)]
    by_cases e : k = b
    · subst e; rw [pa_same, if_pos rfl]
    · rw [pa_ne _ _ (by simp [e]), if_neg e]; exact (q6 k hk).1
  · unfold setN
    by_cases e : k = b
    · subst e; rw [pa_same, if_pos rfl]
    · rw [pa_ne _ _ (by simp [e]), pa_ne _ _ (by simp), if_neg e]; exact (q6 k hk).2.1
  · rw [pa_ne _ _ (by simp), pa_ne _ _ (by simp)]; exact (q6 k hk).2.2
  · rw [pa_ne _ _ (by simp), pa_ne _ _ (by simp)]; exact q7 h0 k hk
theorem HM.mv (H : HM nb w h g t X Y A hm) {b x y : Nat} (hb : b < nb) : HM nb w h g t (setN X b x) (setN Y b y) A (rx_pa (rx_pa hm 13 b (zI x)) 14 b (zI y)) := by
  obtain ⟨q0, q6⟩ := H
  refine ⟨q0, fun k hk => ⟨?_, ?_, ?_⟩⟩
  · unfold setN
    rw [pa_ne _ _ (by simp)]
    by_cases e : k = b
    · subst e; rw [pa_same, if_pos rfl]
    · rw [pa_ne _ _ (by simp [e]), if_neg e]; exact (q6 k hk).1
  · unfold setN
    by_cases e : k = b
    · subst e; rw [pa_same, if_pos rfl]
    · rw [pa_ne _ _ (by simp [e]), pa_ne _ _ (by simp), if_neg e]; exact (q6 k hk).2.1
  · rw [pa_ne _ _ (by simp), pa_ne _ _ (by simp)]; exact (q6 k hk).2.2
theorem HOk.mv (ok : HOk nb w h g t X Y A) {b x y : Nat} (hx : x ≤ w) (hy : y ≤ h) : HOk nb w h g t (setN X b x) (setN Y b y) A := by
  obtain ⟨o1, o2, o3, o4, o5, o6, o7⟩ := ok
  refine ⟨o1, o2, o3, o4, o5, o6, fun k hk => ?_⟩
  have := o7 k hk
  unfold setN
  split <;> omega
theorem wn_ok (ok : HOk nb w h g t X Y A) (b : Nat) (d : Int32) : HOk nb w h g t (wnX w h X Y b d) (wnY w h X Y b d) A := by
  unfold wnX wnY
  cases hi : insI w h (X b + dXi d) (Y b + dYi d) with
  | true =>
    unfold insI at hi
    simp only [Bool.and_eq_true, decide_eq_true_eq] at hi
    exact ok.mv (by omega) (by omega)
  | false => exact ok
theorem wander_c (ok : HOk nb w h g t X Y A) (H : HC nb w h g t X Y A hc) {b : Nat} (hb : b < nb) (d : Int32) : p_Ha_wander (zI b) d ∧ HC nb w h g t (wnX w h X Y b d) (wnY w h X Y b d) A (g_Ha_wander (zI b) d hc) ∧ Fr [] [4, 5] hc (g_Ha_wander (zI b) d hc) := by
  have h6 := ok.1
  have q := ok.2.2.2.2.2.2 b hb
  have hw := ok.2.1
  have hh := ok.2.2.1
  have d1 := dX_bd d
  have d2 := dY_bd d
  refine ⟨vp_N (by omega) (by omega), ?_⟩
  unfold g_Ha_wander
  rw [dX_z, dY_z, zI_cN (by omega), (H.2.1 b hb).1, (H.2.1 b hb).2.1, zI_add, zI_add, ins_c ok H, zI_toInt (by omega) (by omega), zI_toInt (by omega) (by omega)]
  unfold wnX wnY
  cases hi : insI w h (X b + dXi d) (Y b + dYi d) with
  | false => exact ⟨H, Fr.rf⟩
  | true =>
    unfold insI at hi
    simp only [Bool.and_eq_true, decide_eq_true_eq] at hi
    rw [if_neg (show ¬ b2 true = 0 by decide), show (X b : Int) + dXi d = (((X b : Int) + dXi d).toNat : Nat) by omega, show (Y b : Int) + dYi d = (((Y b : Int) + dYi d).toNat : Nat) by omega]
    exact ⟨H.mv hb, (Fr.rf.pa (by decide)).pa (by decide)⟩
def nxt (x : Int64) : Int64 := x * 6364136223846793005 + 1442695040888963407
def drw (x : Int64) : Int32 := ((x.toUInt64 >>> ((33 : Int32).toInt64.toUInt64 &&& Int64.toUInt64 63)).toInt64 - (x.toUInt64 >>> ((33 : Int32).toInt64.toUInt64 &&& Int64.toUInt64 63)).toInt64 / 5 * 5).toInt32
theorem nxt_def (x : Int64) : x * 6364136223846793005 + 1442695040888963407 = nxt x := by unfold nxt; exact Eq.refl _
theorem drw_def (x : Int64) : ((x.toUInt64 >>> ((33 : Int32).toInt64.toUInt64 &&& Int64.toUInt64 63)).toInt64 - (x.toUInt64 >>> ((33 : Int32).toInt64.toUInt64 &&& Int64.toUInt64 63)).toInt64 / 5 * 5).toInt32 = drw x := by unfold drw; exact Eq.refl _
/-- all bodies wander once: from the b-th on, m of them; u: the next number, v: its draw -/
def wF (u : Int64 → Int64) (v : Int64 → Int32) (w h : Nat) : Nat → Nat → (Nat → Nat) → (Nat → Nat) → Int64 → (Nat → Nat) × (Nat → Nat) × Int64
  | 0, _, X, Y, x => (X, Y, x)
  | m + 1, b, X, Y, x => wF u v w h m (b + 1) (wnX w h X Y b (v (u x))) (wnY w h X Y b (v (u x))) (u x)
theorem wF_s (u : Int64 → Int64) (v : Int64 → Int32) {w h : Nat} (m b : Nat) (X Y : Nat → Nat) (x : Int64) : wF u v w h (m + 1) b X Y x = wF u v w h m (b + 1) (wnX w h X Y b (v (u x))) (wnY w h X Y b (v (u x))) (u x) := by rw [wF]
theorem wF_0 (u : Int64 → Int64) (v : Int64 → Int32) {w h : Nat} (b : Nat) (X Y : Nat → Nat) (x : Int64) : wF u v w h 0 b X Y x = (X, Y, x) := by rw [wF]
end WND

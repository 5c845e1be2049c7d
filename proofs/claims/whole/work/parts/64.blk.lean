/-! the cells between are enough -/
def loX (c i : Int) : Int := max c (min i 0 - 1)
def hiX (c i : Int) : Int := min c (max i 0 + 1)
theorem max_c {a b : Int} (ha : -1000 ≤ a ∧ a ≤ 1000) (hb : -1000 ≤ b ∧ b ≤ 1000) : f_Mt_max (zI a) (zI b) = zI (max a b) := by
  have c : zI a < zI b ↔ a < b := zI_lt (by omega) (by omega)
  unfold f_Mt_max
  by_cases z : a < b
  · rw [if_pos (c.mpr z), show max a b = b from by omega]
  · rw [if_neg (mt c.mp z), show max a b = a from by omega]
theorem min_c {a b : Int} (ha : -1000 ≤ a ∧ a ≤ 1000) (hb : -1000 ≤ b ∧ b ≤ 1000) : f_Mt_min (zI a) (zI b) = zI (min a b) := by
  have c : zI b < zI a ↔ b < a := zI_lt (by omega) (by omega)
  unfold f_Mt_min
  by_cases z : b < a
  · rw [if_pos (c.mpr z), show min a b = b from by omega]
  · rw [if_neg (mt c.mp z), show min a b = a from by omega]
theorem spI_rg {u w x : Int} (hx : 0 ≤ x ∧ x ≤ w) : u * w ≤ spI u w x ∧ spI u w x ≤ (u + 1) * w := by
  rw [Int.add_mul, Int.one_mul]
  unfold spI
  by_cases z : u % 2 = 0
  · rw [if_pos z]; omega
  · rw [if_neg z]; omega
theorem mlr {a b w : Int} (h : a * w ≤ b * w) (hw : 0 < w) : a ≤ b := Int.le_of_mul_le_mul_right h hw
theorem rgI {u i w x xb e : Int} (hw : 0 < w) (hx : 0 ≤ x ∧ x ≤ w) (hb : 0 ≤ xb ∧ xb ≤ w) (he : 0 ≤ e ∧ e ≤ w) (h1 : 0 ≤ spI u w x - e ∨ spI i w xb - e ≤ spI u w x - e) (h2 : spI u w x - e ≤ 0 ∨ spI u w x - e ≤ spI i w xb - e) : min i 0 - 1 ≤ u ∧ u ≤ max i 0 + 1 := by
  have a := spI_rg (u := u) hx
  have b := spI_rg (u := i) hb
  have t0 : (0 : Int) * w = 0 := Int.zero_mul w
  have t1 : (1 : Int) * w = w := Int.one_mul w
  constructor
  · rcases h1 with h1 | h1
    · have := mlr (a := 0) (b := u + 1) (w := w) (by omega) hw
      omega
    · have := mlr (a := i) (b := u + 1) (w := w) (by omega) hw
      omega
  · rcases h2 with h2 | h2
    · have := mlr (a := u) (b := 1) (w := w) (by omega) hw
      omega
    · have := mlr (a := u) (b := i + 1) (w := w) (by omega) hw
      omega
theorem lohi (p : Nat) : -10 ≤ loC p ∧ loC p ≤ 0 ∧ 0 ≤ hiC p ∧ hiC p ≤ 10 := by
  unfold loC hiC
  by_cases z3 : p = 3
  · simp [z3]
  · by_cases z1 : p = 1
    · simp [z1]
    · by_cases z2 : p = 2
      · simp [z2]
      · simp [z1, z2, z3]
theorem blO_hd {w h g : Nat} {X Y : Nat → Nat} {b e o : Nat} (hw : 1 ≤ w) (hh : 1 ≤ h) (qb : X b ≤ w ∧ Y b ≤ h) (qe : X e ≤ w ∧ Y e ≤ h) (qo : X o ≤ w ∧ Y o ≤ h) {i j : Int} : blO w h X Y e (spI i w (X b) - X e) (spI j h (Y b) - Y e) (loX (loC (g % 4)) i) (hiX (hiC (g % 4)) i) (loX (loC (g / 4)) j) (hiX (hiC (g / 4)) j) o = anyUp (fun u => anyUp (hdC w h g X Y e (spI i w (X b) - X e) (spI j h (Y b) - Y e) o u) (-10) 21) (-10) 21 := by
  have l1 := lohi (g % 4)
  have l2 := lohi (g / 4)
  rw [Bool.eq_iff_iff]
  unfold blO
  rw [anyUp_iff, anyUp_iff]
  constructor
  · rintro ⟨u, h1, h2, h3⟩
    unfold blU at h3
    rw [Bool.and_eq_true, anyUp_iff] at h3
    obtain ⟨k1, v, h4, h5, h6⟩ := h3
    simp only [loX, hiX] at h1 h2 h4 h5
    refine ⟨u, by omega, by omega, ?_⟩
    rw [anyUp_iff]
    refine ⟨v, by omega, by omega, ?_⟩
    unfold hdC
    rw [on_bk, k1]
    unfold swV at h6
    rw [h6]
    unfold thI
    simp only [Bool.and_eq_true, decide_eq_true_eq, Bool.and_true]
    omega
  · rintro ⟨u, h1, h2, h3⟩
    rw [anyUp_iff] at h3
    obtain ⟨v, h4, h5, h6⟩ := h3
    unfold hdC at h6
    rw [Bool.and_eq_true] at h6
    obtain ⟨k1, k2⟩ := h6
    have r1 := on_rg k2
    have k3 := k2
    rw [on_sw] at k3
    have r2 := on_rg k3
    have g1 := rgI (w := w) (by omega) (by omega) (by omega) (by omega) r1.1 r1.2
    have g2 := rgI (w := h) (by omega) (by omega) (by omega) (by omega) r2.1 r2.2
    unfold thI at k1
    simp only [Bool.and_eq_true, decide_eq_true_eq] at k1
    rw [on_bk, Bool.and_eq_true] at k2
    unfold loX hiX
    refine ⟨u, by omega, by omega, ?_⟩
    unfold blU
    rw [Bool.and_eq_true, anyUp_iff]
    exact ⟨k2.1, v, by omega, by omega, k2.2⟩

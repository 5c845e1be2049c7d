/-! worth: what an operation gives, both sides -/
def zL (z : Int) : Int64 := Int64.ofInt z
theorem zL_toInt {z : Int} (h : -9000000000000 ≤ z ∧ z ≤ 9000000000000) : (zL z).toInt = z := Int64.toInt_ofInt_of_le (by omega) (by omega)
theorem zL_32 {z : Int} (h : -2147483648 ≤ z ∧ z < 2147483648) : (zI z).toInt64 = zL z := by
  apply Int64.toInt.inj
  rw [Int32.toInt_toInt64, zI_toInt h.1 h.2, zL_toInt (by omega)]
theorem zL_to (z : Int) : (zL z).toInt32 = zI z := Int64.toInt32_ofInt
theorem zL_lt {a b : Int} (ha : -9000000000000 ≤ a ∧ a ≤ 9000000000000) (hb : -9000000000000 ≤ b ∧ b ≤ 9000000000000) : (zL a < zL b) ↔ a < b := by
  rw [Int64.lt_iff_toInt_lt, zL_toInt ha, zL_toInt hb]
theorem zL_eq {a b : Int} (ha : -9000000000000 ≤ a ∧ a ≤ 9000000000000) (hb : -9000000000000 ≤ b ∧ b ≤ 9000000000000) : (zL a = zL b) ↔ a = b := by
  refine ⟨fun h => ?_, fun h => by rw [h]⟩
  have := congrArg Int64.toInt h
  rwa [zL_toInt ha, zL_toInt hb] at this
theorem zL_add (a b : Int) : zL a + zL b = zL (a + b) := (Int64.ofInt_add a b).symm
theorem zL_sub (a b : Int) : zL a - zL b = zL (a - b) := (Int64.ofInt_sub a b).symm
theorem zL_mul (a b : Int) : zL a * zL b = zL (a * b) := (Int64.ofInt_mul a b).symm
theorem bd_z {v : Int} (h : -9000000000000 ≤ v ∧ v ≤ 9000000000000) : f_Li_bounded (zL v) = zI (bdI v) := by
  unfold f_Li_bounded f_Mt_max1 f_Mt_min1 bdI
  rw [show (-1000000 : Int64) = zL (-1000000) from by decide, show (1000000 : Int64) = zL 1000000 from by decide]
  have e1 := (lg_cmp_gt (zL 1000000) (zL v)).trans (zL_lt h (by omega))
  by_cases c1 : v < 1000000
  · rw [if_pos (e1.mpr c1)]
    have e2 := (lg_cmp_lt (zL (-1000000)) (zL v)).trans (zL_lt (by omega) h)
    by_cases c2 : -1000000 < v
    · rw [if_pos (e2.mpr c2), if_neg (by omega), if_neg (by omega), zL_to]
    · rw [if_neg (fun z => c2 (e2.mp z)), zL_to]
      by_cases c3 : v < -1000000
      · rw [if_pos c3]
      · rw [if_neg c3, if_neg (by omega)]; congr 1; omega
  · rw [if_neg (fun z => c1 (e1.mp z)), if_neg (show ¬ v < -1000000 by omega)]
    have e2 := (lg_cmp_lt (zL (-1000000)) (zL 1000000)).trans (zL_lt (by omega) (by omega))
    rw [if_pos (e2.mpr (by omega)), zL_to]
    by_cases c3 : 1000000 < v
    · rw [if_pos c3]
    · rw [if_neg c3]; congr 1; omega
theorem bd_m (v : Int64) : f_M_bounded v = f_Li_bounded v := rfl
theorem mul_bd {x y : Int} (hx : -1000000 ≤ x ∧ x ≤ 1000000) (hy : -1000000 ≤ y ∧ y ≤ 1000000) : -9000000000000 ≤ x * y ∧ x * y ≤ 9000000000000 := by
  have h : (x * y).natAbs ≤ 1000000 * 1000000 := by rw [Int.natAbs_mul]; exact Nat.mul_le_mul (by omega) (by omega)
  omega
theorem bdI_id {v : Int} (h : -1000000 ≤ v ∧ v ≤ 1000000) : bdI v = v := by unfold bdI; rw [if_neg (by omega), if_neg (by omega)]
theorem sg_n (k : Fin 14) : (zI (sgC k.val : Nat) = 48 ↔ k.val = 0) ∧ (zI (sgC k.val : Nat) = 97 ↔ k.val = 1) ∧ (zI (sgC k.val : Nat) = 59 ↔ k.val = 13) ∧ (zI (sgC k.val : Nat) = 33 ↔ k.val = 9) ∧ (zI (sgC k.val : Nat) = 63 ↔ k.val = 12) := by revert k; decide
theorem jo_38 (a b : Int32) : f_Li_joined 38 a b = (a &&& b) := by unfold f_Li_joined; rw [if_pos rfl]
theorem jo_42 (a b : Int32) : f_Li_joined 42 a b = (f_Li_bounded (a.toInt64 * b.toInt64)) := by unfold f_Li_joined; rw [if_neg (show ¬ ((42 : Int32) = 38) by decide), if_pos rfl]
theorem jo_43 (a b : Int32) : f_Li_joined 43 a b = (f_Li_bounded ((a + b).toInt64)) := by unfold f_Li_joined; rw [if_neg (show ¬ ((43 : Int32) = 38) by decide), if_neg (show ¬ ((43 : Int32) = 42) by decide), if_pos rfl]
theorem jo_45 (a b : Int32) : f_Li_joined 45 a b = (f_Li_bounded ((a - b).toInt64)) := by unfold f_Li_joined; rw [if_neg (show ¬ ((45 : Int32) = 38) by decide), if_neg (show ¬ ((45 : Int32) = 42) by decide), if_neg (show ¬ ((45 : Int32) = 43) by decide), if_pos rfl]
theorem jo_47 (a b : Int32) : f_Li_joined 47 a b = (if b = 0 then 0 else a / b) := by unfold f_Li_joined; rw [if_neg (show ¬ ((47 : Int32) = 38) by decide), if_neg (show ¬ ((47 : Int32) = 42) by decide), if_neg (show ¬ ((47 : Int32) = 43) by decide), if_neg (show ¬ ((47 : Int32) = 45) by decide), if_pos rfl]
theorem jo_60 (a b : Int32) : f_Li_joined 60 a b = (if b ≤ a then 0 else 1) := by unfold f_Li_joined; rw [if_neg (show ¬ ((60 : Int32) = 38) by decide), if_neg (show ¬ ((60 : Int32) = 42) by decide), if_neg (show ¬ ((60 : Int32) = 43) by decide), if_neg (show ¬ ((60 : Int32) = 45) by decide), if_neg (show ¬ ((60 : Int32) = 47) by decide), if_pos rfl]
theorem jo_61 (a b : Int32) : f_Li_joined 61 a b = (if a = b then 1 else 0) := by unfold f_Li_joined; rw [if_neg (show ¬ ((61 : Int32) = 38) by decide), if_neg (show ¬ ((61 : Int32) = 42) by decide), if_neg (show ¬ ((61 : Int32) = 43) by decide), if_neg (show ¬ ((61 : Int32) = 45) by decide), if_neg (show ¬ ((61 : Int32) = 47) by decide), if_neg (show ¬ ((61 : Int32) = 60) by decide), if_pos rfl]
theorem jo_62 (a b : Int32) : f_Li_joined 62 a b = (if a ≤ b then 0 else 1) := by unfold f_Li_joined; rw [if_neg (show ¬ ((62 : Int32) = 38) by decide), if_neg (show ¬ ((62 : Int32) = 42) by decide), if_neg (show ¬ ((62 : Int32) = 43) by decide), if_neg (show ¬ ((62 : Int32) = 45) by decide), if_neg (show ¬ ((62 : Int32) = 47) by decide), if_neg (show ¬ ((62 : Int32) = 60) by decide), if_neg (show ¬ ((62 : Int32) = 61) by decide), if_pos rfl]
theorem jo_124 (a b : Int32) : f_Li_joined 124 a b = (a ||| b) := by unfold f_Li_joined; rw [if_neg (show ¬ ((124 : Int32) = 38) by decide), if_neg (show ¬ ((124 : Int32) = 42) by decide), if_neg (show ¬ ((124 : Int32) = 43) by decide), if_neg (show ¬ ((124 : Int32) = 45) by decide), if_neg (show ¬ ((124 : Int32) = 47) by decide), if_neg (show ¬ ((124 : Int32) = 60) by decide), if_neg (show ¬ ((124 : Int32) = 61) by decide), if_neg (show ¬ ((124 : Int32) = 62) by decide)]
theorem wk_2 (a b : Int64) : f_M_worked 2 a b = (f_M_bounded (a + b)) := by unfold f_M_worked; rw [if_pos rfl]
theorem wk_3 (a b : Int64) : f_M_worked 3 a b = (f_M_bounded (a - b)) := by unfold f_M_worked; rw [if_neg (show ¬ ((3 : Int32) = 2) by decide), if_pos rfl]
theorem wk_4 (a b : Int64) : f_M_worked 4 a b = (f_M_bounded (a * b)) := by unfold f_M_worked; rw [if_neg (show ¬ ((4 : Int32) = 2) by decide), if_neg (show ¬ ((4 : Int32) = 3) by decide), if_pos rfl]
theorem wk_5 (a b : Int64) : f_M_worked 5 a b = (if lg_cmp b 0 = 0 then 0 else f_M_bounded (a / b)) := by unfold f_M_worked; rw [if_neg (show ¬ ((5 : Int32) = 2) by decide), if_neg (show ¬ ((5 : Int32) = 3) by decide), if_neg (show ¬ ((5 : Int32) = 4) by decide), if_pos rfl]
theorem wk_6 (a b : Int64) : f_M_worked 6 a b = (if lg_cmp a b = 0 then 1 else 0) := by unfold f_M_worked; rw [if_neg (show ¬ ((6 : Int32) = 2) by decide), if_neg (show ¬ ((6 : Int32) = 3) by decide), if_neg (show ¬ ((6 : Int32) = 4) by decide), if_neg (show ¬ ((6 : Int32) = 5) by decide), if_pos rfl]
theorem wk_7 (a b : Int64) : f_M_worked 7 a b = (if 0 ≤ lg_cmp a b then 0 else 1) := by unfold f_M_worked; rw [if_neg (show ¬ ((7 : Int32) = 2) by decide), if_neg (show ¬ ((7 : Int32) = 3) by decide), if_neg (show ¬ ((7 : Int32) = 4) by decide), if_neg (show ¬ ((7 : Int32) = 5) by decide), if_neg (show ¬ ((7 : Int32) = 6) by decide), if_pos rfl]
theorem wk_8 (a b : Int64) : f_M_worked 8 a b = (if lg_cmp a b ≤ 0 then 0 else 1) := by unfold f_M_worked; rw [if_neg (show ¬ ((8 : Int32) = 2) by decide), if_neg (show ¬ ((8 : Int32) = 3) by decide), if_neg (show ¬ ((8 : Int32) = 4) by decide), if_neg (show ¬ ((8 : Int32) = 5) by decide), if_neg (show ¬ ((8 : Int32) = 6) by decide), if_neg (show ¬ ((8 : Int32) = 7) by decide), if_pos rfl]
theorem wk_10 (a b : Int64) : f_M_worked 10 a b = (if lg_cmp a 0 = 0 then 0 else (if lg_cmp b 0 = 0 then 0 else 1)) := by unfold f_M_worked; rw [if_neg (show ¬ ((10 : Int32) = 2) by decide), if_neg (show ¬ ((10 : Int32) = 3) by decide), if_neg (show ¬ ((10 : Int32) = 4) by decide), if_neg (show ¬ ((10 : Int32) = 5) by decide), if_neg (show ¬ ((10 : Int32) = 6) by decide), if_neg (show ¬ ((10 : Int32) = 7) by decide), if_neg (show ¬ ((10 : Int32) = 8) by decide), if_pos rfl]
theorem wk_11 (a b : Int64) : f_M_worked 11 a b = (if lg_cmp a 0 = 0 then (if lg_cmp b 0 = 0 then 0 else 1) else 1) := by unfold f_M_worked; rw [if_neg (show ¬ ((11 : Int32) = 2) by decide), if_neg (show ¬ ((11 : Int32) = 3) by decide), if_neg (show ¬ ((11 : Int32) = 4) by decide), if_neg (show ¬ ((11 : Int32) = 5) by decide), if_neg (show ¬ ((11 : Int32) = 6) by decide), if_neg (show ¬ ((11 : Int32) = 7) by decide), if_neg (show ¬ ((11 : Int32) = 8) by decide), if_neg (show ¬ ((11 : Int32) = 10) by decide)]
theorem op_2 (x y : Int) : opI 2 x y = (bdI (x + y)) := by unfold opI; rw [if_pos rfl]
theorem op_3 (x y : Int) : opI 3 x y = (bdI (x - y)) := by unfold opI; rw [if_neg (show ¬ ((3 : Nat) = 2) by decide), if_pos rfl]
theorem op_4 (x y : Int) : opI 4 x y = (bdI (x * y)) := by unfold opI; rw [if_neg (show ¬ ((4 : Nat) = 2) by decide), if_neg (show ¬ ((4 : Nat) = 3) by decide), if_pos rfl]
theorem op_5 (x y : Int) : opI 5 x y = (if y = 0 then 0 else x.tdiv y) := by unfold opI; rw [if_neg (show ¬ ((5 : Nat) = 2) by decide), if_neg (show ¬ ((5 : Nat) = 3) by decide), if_neg (show ¬ ((5 : Nat) = 4) by decide), if_pos rfl]
theorem op_6 (x y : Int) : opI 6 x y = (if x = y then 1 else 0) := by unfold opI; rw [if_neg (show ¬ ((6 : Nat) = 2) by decide), if_neg (show ¬ ((6 : Nat) = 3) by decide), if_neg (show ¬ ((6 : Nat) = 4) by decide), if_neg (show ¬ ((6 : Nat) = 5) by decide), if_pos rfl]
theorem op_7 (x y : Int) : opI 7 x y = (if x < y then 1 else 0) := by unfold opI; rw [if_neg (show ¬ ((7 : Nat) = 2) by decide), if_neg (show ¬ ((7 : Nat) = 3) by decide), if_neg (show ¬ ((7 : Nat) = 4) by decide), if_neg (show ¬ ((7 : Nat) = 5) by decide), if_neg (show ¬ ((7 : Nat) = 6) by decide), if_pos rfl]
theorem op_8 (x y : Int) : opI 8 x y = (if y < x then 1 else 0) := by unfold opI; rw [if_neg (show ¬ ((8 : Nat) = 2) by decide), if_neg (show ¬ ((8 : Nat) = 3) by decide), if_neg (show ¬ ((8 : Nat) = 4) by decide), if_neg (show ¬ ((8 : Nat) = 5) by decide), if_neg (show ¬ ((8 : Nat) = 6) by decide), if_neg (show ¬ ((8 : Nat) = 7) by decide), if_pos rfl]
theorem op_10 (x y : Int) : opI 10 x y = (if x = 0 ∨ y = 0 then 0 else 1) := by unfold opI; rw [if_neg (show ¬ ((10 : Nat) = 2) by decide), if_neg (show ¬ ((10 : Nat) = 3) by decide), if_neg (show ¬ ((10 : Nat) = 4) by decide), if_neg (show ¬ ((10 : Nat) = 5) by decide), if_neg (show ¬ ((10 : Nat) = 6) by decide), if_neg (show ¬ ((10 : Nat) = 7) by decide), if_neg (show ¬ ((10 : Nat) = 8) by decide), if_pos rfl]
theorem op_11 (x y : Int) : opI 11 x y = (if x = 0 ∧ y = 0 then 0 else 1) := by unfold opI; rw [if_neg (show ¬ ((11 : Nat) = 2) by decide), if_neg (show ¬ ((11 : Nat) = 3) by decide), if_neg (show ¬ ((11 : Nat) = 4) by decide), if_neg (show ¬ ((11 : Nat) = 5) by decide), if_neg (show ¬ ((11 : Nat) = 6) by decide), if_neg (show ¬ ((11 : Nat) = 7) by decide), if_neg (show ¬ ((11 : Nat) = 8) by decide), if_neg (show ¬ ((11 : Nat) = 10) by decide)]
/-- the class's operations -/
theorem jo_c {k : Nat} (hk : (2 ≤ k ∧ k ≤ 8) ∨ k = 10 ∨ k = 11) {x y : Int} (hg : gdB k x y = true) : f_Li_joined (zI (sgC k : Nat)) (zI x) (zI y) = zI (opI k x y) := by
  have g := gdB_iff.mp hg
  have hk' : k = 2 ∨ k = 3 ∨ k = 4 ∨ k = 5 ∨ k = 6 ∨ k = 7 ∨ k = 8 ∨ k = 10 ∨ k = 11 := by omega
  rcases hk' with rfl | rfl | rfl | rfl | rfl | rfl | rfl | rfl | rfl
  · obtain ⟨hx, hy⟩ := g.2 (by decide)
    rw [show zI ((sgC 2 : Nat) : Int) = (43 : Int32) from by decide, jo_43, op_2, zI_add, zL_32 (by omega), bd_z (by omega)]
  · obtain ⟨hx, hy⟩ := g.2 (by decide)
    rw [show zI ((sgC 3 : Nat) : Int) = (45 : Int32) from by decide, jo_45, op_3, zI_sub, zL_32 (by omega), bd_z (by omega)]
  · obtain ⟨hx, hy⟩ := g.2 (by decide)
    rw [show zI ((sgC 4 : Nat) : Int) = (42 : Int32) from by decide, jo_42, op_4, zL_32 (by omega), zL_32 (by omega), zL_mul, bd_z (mul_bd hx hy)]
  · obtain ⟨hx, hy⟩ := g.2 (by decide)
    rw [show zI ((sgC 5 : Nat) : Int) = (47 : Int32) from by decide, jo_47, op_5]
    have e := zI_eq (a := y) (b := 0) (by omega) (by omega)
    rw [show zI 0 = (0 : Int32) from by decide] at e
    by_cases c : y = 0
    · rw [if_pos (e.mpr c), if_pos c]; decide
    · rw [if_neg (fun z => c (e.mp z)), if_neg c, zI_div (by omega) (by omega)]
  · obtain ⟨hx, hy⟩ := g.2 (by decide)
    rw [show zI ((sgC 6 : Nat) : Int) = (61 : Int32) from by decide, jo_61, op_6]
    have e := zI_eq (a := x) (b := y) (by omega) (by omega)
    by_cases c : x = y
    · rw [if_pos (e.mpr c), if_pos c]; decide
    · rw [if_neg (fun z => c (e.mp z)), if_neg c]; decide
  · obtain ⟨hx, hy⟩ := g.2 (by decide)
    rw [show zI ((sgC 7 : Nat) : Int) = (60 : Int32) from by decide, jo_60, op_7]
    have e := zI_le (a := y) (b := x) (by omega) (by omega)
    by_cases c : y ≤ x
    · rw [if_pos (e.mpr c), if_neg (show ¬ x < y by omega)]; decide
    · rw [if_neg (fun z => c (e.mp z)), if_pos (show x < y by omega)]; decide
  · obtain ⟨hx, hy⟩ := g.2 (by decide)
    rw [show zI ((sgC 8 : Nat) : Int) = (62 : Int32) from by decide, jo_62, op_8]
    have e := zI_le (a := x) (b := y) (by omega) (by omega)
    by_cases c : x ≤ y
    · rw [if_pos (e.mpr c), if_neg (show ¬ y < x by omega)]; decide
    · rw [if_neg (fun z => c (e.mp z)), if_pos (show y < x by omega)]; decide
  · obtain ⟨hx, hy⟩ := g.1 (by decide)
    rw [show zI ((sgC 10 : Nat) : Int) = (38 : Int32) from by decide, jo_38, op_10]
    rcases hx with rfl | rfl <;> rcases hy with rfl | rfl <;> decide
  · obtain ⟨hx, hy⟩ := g.1 (by decide)
    rw [show zI ((sgC 11 : Nat) : Int) = (124 : Int32) from by decide, jo_124, op_11]
    rcases hx with rfl | rfl <;> rcases hy with rfl | rfl <;> decide
/-- the model's operations -/
theorem wk_m {k : Nat} (hk : (2 ≤ k ∧ k ≤ 8) ∨ k = 10 ∨ k = 11) {x y : Int} (hg : gdB k x y = true) : p_M_worked (zI (k : Int)) ((zI x).toInt64) ((zI y).toInt64) ∧ f_M_worked (zI (k : Int)) ((zI x).toInt64) ((zI y).toInt64) = zI (opI k x y) := by
  have g := gdB_iff.mp hg
  have hk' : k = 2 ∨ k = 3 ∨ k = 4 ∨ k = 5 ∨ k = 6 ∨ k = 7 ∨ k = 8 ∨ k = 10 ∨ k = 11 := by omega
  have hxy : (-1000000 ≤ x ∧ x ≤ 1000000) ∧ (-1000000 ≤ y ∧ y ≤ 1000000) := by
    by_cases q : k = 10 ∨ k = 11
    · obtain ⟨h1, h2⟩ := g.1 q; omega
    · exact g.2 q
  obtain ⟨hx, hy⟩ := hxy
  rw [zL_32 (z := x) (by omega), zL_32 (z := y) (by omega)]
  have z0 : (0 : Int64) = zL 0 := by decide
  have ey : (lg_cmp (zL y) 0 = 0) ↔ y = 0 := by rw [z0]; exact (lg_cmp_eq _ _).trans (zL_eq (by omega) (by omega))
  have ex : (lg_cmp (zL x) 0 = 0) ↔ x = 0 := by rw [z0]; exact (lg_cmp_eq _ _).trans (zL_eq (by omega) (by omega))
  refine ⟨fun _ c d => c ((lg_cmp_eq _ _).mpr d), ?_⟩
  clear g hg hk
  rcases hk' with rfl | rfl | rfl | rfl | rfl | rfl | rfl | rfl | rfl
  · rw [show zI ((2 : Nat) : Int) = (2 : Int32) from by decide, wk_2, op_2, zL_add, bd_m, bd_z (by omega)]
  · rw [show zI ((3 : Nat) : Int) = (3 : Int32) from by decide, wk_3, op_3, zL_sub, bd_m, bd_z (by omega)]
  · rw [show zI ((4 : Nat) : Int) = (4 : Int32) from by decide, wk_4, op_4, zL_mul, bd_m, bd_z (mul_bd hx hy)]
  · rw [show zI ((5 : Nat) : Int) = (5 : Int32) from by decide, wk_5, op_5]
    by_cases c : y = 0
    · rw [if_pos (ey.mpr c), if_pos c]; decide
    · have := tdiv_bd (y := y) hx
      have ed : zL x / zL y = zL (x.tdiv y) := by
        apply Int64.toInt.inj
        rw [Int64.toInt_div, zL_toInt (by omega), zL_toInt (by omega), zL_toInt (by omega)]
        exact Int.bmod_eq_of_le (by omega) (by omega)
      rw [if_neg (fun z => c (ey.mp z)), if_neg c, ed, bd_m, bd_z (by omega), bdI_id this]
  · rw [show zI ((6 : Nat) : Int) = (6 : Int32) from by decide, wk_6, op_6]
    have e := (lg_cmp_eq (zL x) (zL y)).trans (zL_eq (by omega) (by omega))
    by_cases c : x = y
    · rw [if_pos (e.mpr c), if_pos c]; decide
    · rw [if_neg (fun z => c (e.mp z)), if_neg c]; decide
  · rw [show zI ((7 : Nat) : Int) = (7 : Int32) from by decide, wk_7, op_7]
    have e := (lg_cmp_lt (zL x) (zL y)).trans (zL_lt (by omega) (by omega))
    have e' : (0 ≤ lg_cmp (zL x) (zL y)) ↔ ¬ x < y := by rw [← e]; exact Int32.not_lt.symm
    by_cases c : x < y
    · rw [if_neg (fun z => e'.mp z c), if_pos c]; decide
    · rw [if_pos (e'.mpr c), if_neg c]; decide
  · rw [show zI ((8 : Nat) : Int) = (8 : Int32) from by decide, wk_8, op_8]
    have e := (lg_cmp_gt (zL x) (zL y)).trans (zL_lt (by omega) (by omega))
    have e' : (lg_cmp (zL x) (zL y) ≤ 0) ↔ ¬ y < x := by rw [← e]; exact Int32.not_lt.symm
    by_cases c : y < x
    · rw [if_neg (fun z => e'.mp z c), if_pos c]; decide
    · rw [if_pos (e'.mpr c), if_neg c]; decide
  · rw [show zI ((10 : Nat) : Int) = (10 : Int32) from by decide, wk_10, op_10]
    by_cases c : x = 0
    · rw [if_pos (ex.mpr c), if_pos (Or.inl c)]; decide
    · rw [if_neg (fun z => c (ex.mp z))]
      by_cases d : y = 0
      · rw [if_pos (ey.mpr d), if_pos (Or.inr d)]; decide
      · rw [if_neg (fun z => d (ey.mp z)), if_neg (show ¬ (x = 0 ∨ y = 0) by omega)]; decide
  · rw [show zI ((11 : Nat) : Int) = (11 : Int32) from by decide, wk_11, op_11]
    by_cases c : x = 0
    · rw [if_pos (ex.mpr c)]
      by_cases d : y = 0
      · rw [if_pos (ey.mpr d), if_pos (show x = 0 ∧ y = 0 from ⟨c, d⟩)]; decide
      · rw [if_neg (fun z => d (ey.mp z)), if_neg (show ¬ (x = 0 ∧ y = 0) by omega)]; decide
    · rw [if_neg (fun z => c (ex.mp z)), if_neg (show ¬ (x = 0 ∧ y = 0) by omega)]; decide

/-! view (class) -/
section VWD
variable {nb w h g t : Nat} {X Y A : Nat → Nat}
theorem vwR_eq {w h g nb b e n : Nat} {X Y : Nat → Nat} {i : Int} (hi : i.natAbs ≤ n) : vwR w h g X Y nb b e n i = cntUp (snA w h g X Y nb b e i) (-((n - i.natAbs : Nat) : Int)) (2 * (n - i.natAbs) + 1) := by
  unfold vwR
  rw [sumUp_cnt, sumUp_mid (b := -((n - i.natAbs : Nat) : Int)) (m := 2 * (n - i.natAbs) + 1) (by omega) (by omega), ← sumUp_cnt]
  · refine cntUp_congr _ _ (fun k k1 k2 => ?_)
    unfold vwC glI
    rw [decide_eq_true (by omega), Bool.true_and]
  · intro k k1 k2
    have z : vwC w h g X Y nb b e n i k = false := by unfold vwC glI; rw [decide_eq_false (by omega), Bool.false_and]
    rw [z]; rfl
  · intro k k1 k2
    have z : vwC w h g X Y nb b e n i k = false := by unfold vwC glI; rw [decide_eq_false (by omega), Bool.false_and]
    rw [z]; rfl
end VWD

def wC_k : Nat → rx_Kd
  | 0 => .inl 11
  | 1 => .inl 10
  | 2 => .inr (0, 160)
  | 3 => .inl 3
  | 4 => .inr (0, 6)
  | 5 => .inr (0, 6)
  | 6 => .inr (0, 6)
  | 7 => .inr (0, 21)
  | 8 => .inl 4
  | 9 => .inr (0, 7)
  | 10 => .inl 3
  | 11 => .inr (0, 6)
  | 12 => .inr (0, 6)
  | 13 => .inr (0, 6)
  | 14 => .inr (0, 21)
  | 15 => .inl 7
  | 16 => .inl 6
  | 17 => .inr (0, 160)
  | 18 => .inr (0, 160)
  | 19 => .inr (1, 5)
  | 20 => .inl 6
  | 21 => .inr (0, 160)
  | 22 => .inr (0, 160)
  | 23 => .inl 6
  | 24 => .inr (0, 160)
  | 25 => .inr (0, 160)
  | 26 => .inl 6
  | 27 => .inr (0, 160)
  | 28 => .inr (0, 160)
  | 29 => .inl 6
  | 30 => .inr (0, 160)
  | 31 => .inr (0, 160)
  | 32 => .inl 6
  | 33 => .inr (0, 160)
  | 34 => .inr (0, 160)
  | 35 => .inr (0, 6)
  | 36 => .inr (0, 160)
  | 37 => .inl 0
  | 38 => .inr (0, 520)
  | 39 => .inr (0, 13)
  | 40 => .inl 2
  | 41 => .inr (0, 21)
  | 42 => .inr (0, 21)
  | 43 => .inl 9
  | 44 => .inl 1
  | 45 => .inr (0, 40)
  | 46 => .inl 5
  | 47 => .inl 8
  | 48 => .inr (0, 12)
  | 49 => .inr (0, 12)
  | _ => .inr (0, 0)
def wC_r0 (lr : Nat) (j : Nat) : Option Nat := match j with | 0 => some 1 | 1 => some 3 | 2 => some 8 | 3 => some 15 | 4 => some 19 | 5 => some 35 | 6 => some 36 | 7 => some 37 | 8 => some 39 | 9 => some 40 | 10 => some 43 | 11 => some 44 | 12 => some 46 | 13 => some 47 | _ => none
def wC_r1 (lr : Nat) (j : Nat) : Option Nat := match j with | 0 => some 2 | _ => none
def wC_r3 (lr : Nat) (j : Nat) : Option Nat := match j with | 0 => some 4 | 1 => some 5 | 2 => some 6 | 3 => some 7 | _ => none
def wC_r8 (lr : Nat) (j : Nat) : Option Nat := match j with | 0 => some 1 | 1 => some 9 | 2 => some 10 | _ => none
def wC_r10 (lr : Nat) (j : Nat) : Option Nat := match j with | 0 => some 11 | 1 => some 12 | 2 => some 13 | 3 => some 14 | _ => none
def wC_r15 (lr : Nat) (j : Nat) : Option Nat := match j with | 0 => some 1 | 1 => some lr | _ => none
def wC_r16 (lr : Nat) (j : Nat) : Option Nat := match j with | 0 => some 17 | 1 => some 18 | _ => none
def wC_r19 (lr : Nat) (j : Nat) : Option Nat := match j with | 0 => some 20 | 1 => some 23 | 2 => some 26 | 3 => some 29 | 4 => some 32 | _ => none
def wC_r20 (lr : Nat) (j : Nat) : Option Nat := match j with | 0 => some 21 | 1 => some 22 | _ => none
def wC_r23 (lr : Nat) (j : Nat) : Option Nat := match j with | 0 => some 24 | 1 => some 25 | _ => none
def wC_r26 (lr : Nat) (j : Nat) : Option Nat := match j with | 0 => some 27 | 1 => some 28 | _ => none
def wC_r29 (lr : Nat) (j : Nat) : Option Nat := match j with | 0 => some 30 | 1 => some 31 | _ => none
def wC_r32 (lr : Nat) (j : Nat) : Option Nat := match j with | 0 => some 33 | 1 => some 34 | _ => none
def wC_r37 (lr : Nat) (j : Nat) : Option Nat := match j with | 0 => some 38 | _ => none
def wC_r40 (lr : Nat) (j : Nat) : Option Nat := match j with | 0 => some 3 | 1 => some 41 | 2 => some 42 | _ => none
def wC_r43 (lr : Nat) (j : Nat) : Option Nat := match j with | 0 => some 3 | _ => none
def wC_r44 (lr : Nat) (j : Nat) : Option Nat := match j with | 0 => some 3 | 1 => some 45 | _ => none
def wC_r46 (lr : Nat) (j : Nat) : Option Nat := match j with | 0 => some 3 | _ => none
def wC_r47 (lr : Nat) (j : Nat) : Option Nat := match j with | 0 => some 3 | 1 => some 48 | 2 => some 49 | _ => none
def wC_r (lr : Nat) (k : Nat) (j : Nat) : Option Nat := match k with
  | 0 => wC_r0 lr j
  | 1 => wC_r1 lr j
  | 3 => wC_r3 lr j
  | 8 => wC_r8 lr j
  | 10 => wC_r10 lr j
  | 15 => wC_r15 lr j
  | 16 => wC_r16 lr j
  | 19 => wC_r19 lr j
  | 20 => wC_r20 lr j
  | 23 => wC_r23 lr j
  | 26 => wC_r26 lr j
  | 29 => wC_r29 lr j
  | 32 => wC_r32 lr j
  | 37 => wC_r37 lr j
  | 40 => wC_r40 lr j
  | 43 => wC_r43 lr j
  | 44 => wC_r44 lr j
  | 46 => wC_r46 lr j
  | 47 => wC_r47 lr j
  | _ => none
abbrev wC : rx_Om := (50, wC_k, wC_r)
def wM_k : Nat → rx_Kd
  | 0 => .inl 12
  | 1 => .inr (0, 160)
  | 2 => .inr (0, 1700)
  | 3 => .inr (0, 1700)
  | 4 => .inr (0, 5)
  | 5 => .inr (0, 5)
  | 6 => .inr (0, 450)
  | 7 => .inr (0, 450)
  | 8 => .inr (0, 450)
  | 9 => .inr (0, 6)
  | 10 => .inr (0, 80)
  | 11 => .inr (0, 4)
  | 12 => .inr (0, 18)
  | 13 => .inr (0, 6)
  | 14 => .inr (0, 6)
  | 15 => .inr (0, 6)
  | 16 => .inr (0, 520)
  | 17 => .inr (0, 441)
  | 18 => .inr (0, 441)
  | 19 => .inr (0, 441)
  | 20 => .inr (0, 360)
  | 21 => .inr (0, 12)
  | 22 => .inr (0, 12)
  | 23 => .inr (0, 13)
  | _ => .inr (0, 0)
def wM_r0 (lr : Nat) (j : Nat) : Option Nat := match j with | 1 => some 1 | 6 => some 2 | 7 => some 3 | 8 => some 4 | 9 => some 5 | 10 => some 6 | 11 => some 7 | 12 => some 8 | 15 => some 9 | 16 => some 10 | 17 => some 11 | 18 => some 12 | 20 => some 13 | 21 => some 14 | 22 => some 15 | 29 => some 16 | 31 => some 17 | 32 => some 18 | 33 => some 19 | 37 => some 20 | 40 => some 21 | 41 => some 22 | 43 => some 23 | _ => none
def wM_r (lr : Nat) (k : Nat) (j : Nat) : Option Nat := match k with
  | 0 => wM_r0 lr j
  | _ => none
abbrev wM : rx_Om := (24, wM_k, wM_r)
theorem wC_lr (r lr : Nat) : ∀ k i, ¬ (k = 15 ∧ i = 1) → wC_r r k i = wC_r lr k i := by
  intro k i h
  by_cases hk : k = 15
  · subst hk
    have hi : ¬ i = 1 := fun hi => h ⟨rfl, hi⟩
    match i, hi with
    | 0, _ => rfl
    | 1, hi => exact absurd rfl hi
    | i + 2, _ => rfl
  · unfold wC_r
    split <;> first | rfl | exact absurd rfl hk
theorem rx_bool {x : Int32} (h : x = 0 ∨ x = 1) : narrow .boolean (.int x) = .int x ∧ fits .boolean (.int x) = true := by
  rcases h with rfl | rfl <;> exact ⟨rfl, rfl⟩
theorem rx_tab {x : Int32} {lo hi : Int} (hl : -2147483648 ≤ lo) (hh : hi ≤ 2147483647) (h : ∀ i : Int, lo ≤ i → i ≤ hi → ¬ x = Int32.ofInt i) : x.toInt < lo ∨ hi < x.toInt := by
  by_cases h1 : x.toInt < lo
  · exact Or.inl h1
  · by_cases h2 : hi < x.toInt
    · exact Or.inr h2
    · exact absurd (Int32.ofInt_toInt x).symm (h x.toInt (by omega) (by omega))
theorem rb_ite {c : Prop} [Decidable c] {a b : Int32} (ha : a = 0 ∨ a = 1) (hb : b = 0 ∨ b = 1) : (if c then a else b) = 0 ∨ (if c then a else b) = 1 := by
  split
  · exact ha
  · exact hb
theorem rx_ne {x a b : Int32} (h : x = a) (n : ¬ a = b) : ¬ x = b := fun e => n (h.symm.trans e)
def isL (o : Nat) : Prop := o = 16 ∨ o = 20 ∨ o = 23 ∨ o = 26 ∨ o = 29 ∨ o = 32
theorem isL_lt {o : Nat} (h : isL o) : o < wC.1 := by rcases h with rfl | rfl | rfl | rfl | rfl | rfl <;> decide
theorem isL_k {o : Nat} (h : isL o) : wC.2.1 o = .inl 6 := by rcases h with rfl | rfl | rfl | rfl | rfl | rfl <;> rfl
theorem isL_r0 {o : Nat} (h : isL o) {lr : Nat} : wC.2.2 lr o 0 = some (o + 1) := by rcases h with rfl | rfl | rfl | rfl | rfl | rfl <;> rfl
theorem isL_r1 {o : Nat} (h : isL o) {lr : Nat} : wC.2.2 lr o 1 = some (o + 2) := by rcases h with rfl | rfl | rfl | rfl | rfl | rfl <;> rfl
theorem isL_lt1 {o : Nat} (h : isL o) : o + 1 < wC.1 := by rcases h with rfl | rfl | rfl | rfl | rfl | rfl <;> decide
theorem isL_lt2 {o : Nat} (h : isL o) : o + 2 < wC.1 := by rcases h with rfl | rfl | rfl | rfl | rfl | rfl <;> decide
theorem isL_k1 {o : Nat} (h : isL o) : wC.2.1 (o + 1) = .inr (0, 160) := by rcases h with rfl | rfl | rfl | rfl | rfl | rfl <;> rfl
theorem isL_k2 {o : Nat} (h : isL o) : wC.2.1 (o + 2) = .inr (0, 160) := by rcases h with rfl | rfl | rfl | rfl | rfl | rfl <;> rfl

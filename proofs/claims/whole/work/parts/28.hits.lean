/-! hits, both sides -/
theorem mulbd {a b A B : Int} (h1 : -A ≤ a ∧ a ≤ A) (h2 : -B ≤ b ∧ b ≤ B) : -(A * B) ≤ a * b ∧ a * b ≤ A * B := by
  have hA : 0 ≤ A := by omega
  have hB : 0 ≤ B := by omega
  have h3 : (a * b).natAbs ≤ (A * B).natAbs := by
    rw [Int.natAbs_mul, Int.natAbs_mul]
    exact Nat.mul_le_mul (by omega) (by omega)
  have h4 : 0 ≤ A * B := Int.mul_nonneg hA hB
  omega
theorem spI_bd {i w x : Int} (hi : -10 ≤ i ∧ i ≤ 10) (hw : 0 ≤ w ∧ w ≤ 20) (hx : 0 ≤ x ∧ x ≤ w) : -220 ≤ spI i w x ∧ spI i w x ≤ 220 := by
  have := mulbd (A := 10) (B := 20) (a := i) (b := w) (by omega) (by omega)
  unfold spI
  split <;> omega
def hPk (al i j : Int) (s : Option (Int × Int × Int)) : Option (Int × Int × Int) := match s with
  | none => some (al, i, j)
  | some (a, i0, j0) => if al < a ∨ (al = a ∧ glI i j < glI i0 j0) then some (al, i, j) else some (a, i0, j0)
def hSt (w h : Nat) (X Y : Nat → Nat) (b o : Nat) (r u : Int) (i j : Int) (s : Option (Int × Int × Int)) : Option (Int × Int × Int) :=
  if r * (spI j h (Y o) - Y b) = u * (spI i w (X o) - X b) ∧ 0 < r * (spI i w (X o) - X b) + u * (spI j h (Y o) - Y b) then hPk (r * (spI i w (X o) - X b) + u * (spI j h (Y o) - Y b)) i j s else s
def hInv (s : Option (Int × Int × Int)) : Prop := ∀ a i j, s = some (a, i, j) → 0 < a ∧ a ≤ 100000 ∧ (-10 ≤ i ∧ i ≤ 10) ∧ (-10 ≤ j ∧ j ≤ 10)
def h7 : Option (Int × Int × Int) → Int32
  | none => 0
  | some (_, i, _) => zI i
def h8 : Option (Int × Int × Int) → Int32
  | none => 0
  | some (_, _, j) => zI j
def h9 : Option (Int × Int × Int) → Int32
  | none => 0
  | some (a, _, _) => zI a
def hg (s : Option (Int × Int × Int)) : Int32 := match s with
  | none => 0
  | some (_, i, j) => zI (glI i j : Nat)
section HIT
variable {nb w h g t : Nat} {X Y A : Nat → Nat} {hc hm : rx_Hp}
theorem hbd (ok : HOk nb w h g t X Y A) {b o : Nat} (hb : b < nb) (ho : o < nb) {r u : Int} (hr : -9 ≤ r ∧ r ≤ 9) (hu : -9 ≤ u ∧ u ≤ 9) {i j : Int} (hi : -10 ≤ i ∧ i ≤ 10) (hj : -10 ≤ j ∧ j ≤ 10) :
    (-2160 ≤ r * (spI j h (Y o) - Y b) ∧ r * (spI j h (Y o) - Y b) ≤ 2160) ∧ (-2160 ≤ u * (spI i w (X o) - X b) ∧ u * (spI i w (X o) - X b) ≤ 2160) ∧ (-4320 ≤ r * (spI i w (X o) - X b) + u * (spI j h (Y o) - Y b) ∧ r * (spI i w (X o) - X b) + u * (spI j h (Y o) - Y b) ≤ 4320) := by
  obtain ⟨o1, o2, o3, o4, o5, o6, o7⟩ := ok
  have b1 := o7 b hb
  have b2 := o7 o ho
  have s1 := spI_bd (i := i) (w := w) (x := X o) hi (by omega) (by omega)
  have s2 := spI_bd (i := j) (w := h) (x := Y o) hj (by omega) (by omega)
  have m1 := mulbd (A := 9) (B := 240) (a := r) (b := spI j h (Y o) - Y b) (by omega) (by omega)
  have m2 := mulbd (A := 9) (B := 240) (a := u) (b := spI i w (X o) - X b) (by omega) (by omega)
  have m3 := mulbd (A := 9) (B := 240) (a := r) (b := spI i w (X o) - X b) (by omega) (by omega)
  have m4 := mulbd (A := 9) (B := 240) (a := u) (b := spI j h (Y o) - Y b) (by omega) (by omega)
  omega
theorem hSt_inv (ok : HOk nb w h g t X Y A) {b o : Nat} (hb : b < nb) (ho : o < nb) {r u : Int} (hr : -9 ≤ r ∧ r ≤ 9) (hu : -9 ≤ u ∧ u ≤ 9) {i j : Int} (hi : -10 ≤ i ∧ i ≤ 10) (hj : -10 ≤ j ∧ j ≤ 10) {s : Option (Int × Int × Int)} (hs : hInv s) : hInv (hSt w h X Y b o r u i j s) := by
  have hB := (hbd ok hb ho hr hu hi hj).2.2
  unfold hSt
  split
  · rename_i c
    unfold hPk
    split
    · intro a i' j' e
      cases e
      exact ⟨c.2, by omega, hi, hj⟩
    · rename_i a i0 j0
      split
      · intro a i' j' e
        cases e
        exact ⟨c.2, by omega, hi, hj⟩
      · exact hs
  · exact hs
theorem hits_in_m {G : rx_Gh} {F : Int32 → rx_Hp → Prop} (ok : HOk nb w h g t X Y A) (H : HM nb w h g t X Y A hm) {b o : Nat} (hb : b < nb) (ho : o < nb) {r u : Int} (hr : -9 ≤ r ∧ r ≤ 9) (hu : -9 ≤ u ∧ u ≤ 9) {i : Int} (hi : -10 ≤ i ∧ i ≤ 10) (x5 : Int32) :
    ∀ (m : Nat) (j : Int) (s : Option (Int × Int × Int)), j + m = 11 → -10 ≤ j → hInv s →
      (∀ s', s' = foldUp (hSt w h X Y b o r u i) j m s → hInv s' → Rn wM G 3 q_M_hits 77 [some (.ref 0), some (.int (zI b)), some (.int (zI r)), some (.int (zI u)), some (.int (zI o)), some (.int x5), some (.int (b2 s'.isSome)), some (.int (h7 s')), some (.int (h8 s')), some (.int (h9 s')), some (.int (zI i + 1)), none, none, none, none, none] [] hm (rI F)) →
      Rn wM G 3 q_M_hits 88 [some (.ref 0), some (.int (zI b)), some (.int (zI r)), some (.int (zI u)), some (.int (zI o)), some (.int x5), some (.int (b2 s.isSome)), some (.int (h7 s)), some (.int (h8 s)), some (.int (h9 s)), some (.int (zI i)), some (.int (zI j)), none, none, none, none] [] hm (rI F) := by
  have h6 := ok.1
  have e10 : (10 : Int32) = zI 10 := by decide
  have e1 : (1 : Int32) = zI 1 := by decide
  have e0 : (0 : Int32) = zI 0 := by decide
  intro m
  induction m with
  | zero =>
    intro j s hj _ hs K
    have hc : 10 < zI j := by rw [e10, zI_lt (by omega) (by omega)]; omega
    refine w_M_hits_88 _ _ _ _ _ _ _ _ _ _ _ ⟨fun _ => K s rfl hs, fun c => absurd hc c⟩
  | succ m ih =>
    intro j s hj hj2 hs K
    have hj' : -10 ≤ j ∧ j ≤ 10 := by omega
    have hc : ¬ 10 < zI j := by rw [e10, zI_lt (by omega) (by omega)]; omega
    refine w_M_hits_88 _ _ _ _ _ _ _ _ _ _ _ ⟨fun c => absurd c hc, fun _ => ?_⟩
    refine ⟨vp_N (by omega) (by omega), vp_N (by omega) (by omega), vp_N (by omega) (by omega), ?_⟩
    obtain ⟨bd1, bd2, bd3⟩ := hbd ok hb ho hr hu hi hj'
    have ex : f_M_imageX (zI o) (zI i) hm - hm.2.1 13 (zI (b : Int)).toNatClampNeg = zI (spI i w (X o) - X b) := by
      unfold f_M_imageX
      rw [zI_cN (by omega), zI_cN (by omega), (H.2 b hb).1, (H.2 o ho).1, H.1.2.1, spot_m hi.1 hi.2, zI_sub]
    have ey : f_M_imageY (zI o) (zI j) hm - hm.2.1 14 (zI (b : Int)).toNatClampNeg = zI (spI j h (Y o) - Y b) := by
      unfold f_M_imageY
      rw [zI_cN (by omega), zI_cN (by omega), (H.2 b hb).2.1, (H.2 o ho).2.1, H.1.2.2.1, spot_m hj'.1 hj'.2, zI_sub]
    have K' := ih (j + 1) (hSt w h X Y b o r u i j s) (by omega) (by omega) (hSt_inv ok hb ho hr hu hi hj' hs) (fun s' e => K s' (by rw [foldUp]; exact e))
    rw [ex, ey]
    simp only [zI_mul, zI_add]
    have ej : zI j + 1 = zI (j + 1) := zI_add j 1
    rw [ej]
    have cEq : (zI (r * (spI j h (Y o) - Y b)) = zI (u * (spI i w (X o) - X b))) ↔ r * (spI j h (Y o) - Y b) = u * (spI i w (X o) - X b) := zI_eq (by omega) (by omega)
    have cPos : (zI (r * (spI i w (X o) - X b) + u * (spI j h (Y o) - Y b)) ≤ 0) ↔ r * (spI i w (X o) - X b) + u * (spI j h (Y o) - Y b) ≤ 0 := by rw [e0]; exact zI_le (by omega) (by omega)
    have S0 : ¬ (r * (spI j h (Y o) - Y b) = u * (spI i w (X o) - X b) ∧ 0 < r * (spI i w (X o) - X b) + u * (spI j h (Y o) - Y b)) → hSt w h X Y b o r u i j s = s := fun q => by unfold hSt; rw [if_neg q]
    have S1 : (r * (spI j h (Y o) - Y b) = u * (spI i w (X o) - X b) ∧ 0 < r * (spI i w (X o) - X b) + u * (spI j h (Y o) - Y b)) → hSt w h X Y b o r u i j s = hPk (r * (spI i w (X o) - X b) + u * (spI j h (Y o) - Y b)) i j s := fun q => by unfold hSt; rw [if_pos q]
    generalize r * (spI i w (X o) - X b) + u * (spI j h (Y o) - Y b) = al at *
    generalize r * (spI j h (Y o) - Y b) = p1 at *
    generalize u * (spI i w (X o) - X b) = p2 at *
    generalize hSt w h X Y b o r u i j s = s1 at *
    have hgl := gl_m hi hj'
    refine ⟨fun c => ?_, fun c => ?_⟩
    · rw [S0 (fun q => by
        rw [if_pos (cEq.mpr q.1), if_neg (fun z => by have := cPos.mp z; omega)] at c
        exact absurd c (by decide))] at K'
      exact K'
    · have q : p1 = p2 ∧ 0 < al := by
        refine ⟨?_, ?_⟩
        · refine Decidable.byContradiction (fun z => c ?_)
          rw [if_neg (fun y => z (cEq.mp y))]
        · refine Decidable.byContradiction (fun z => c ?_)
          rw [if_pos (cPos.mpr (by omega))]
          split <;> rfl
      have S1 := S1 q
      cases s with
      | none =>
        rw [S1] at K'
        exact ⟨fun _ => K', fun z => absurd rfl z⟩
      | some v =>
        obtain ⟨a, i0, j0⟩ := v
        obtain ⟨v1, v2, v3, v4⟩ := hs a i0 j0 rfl
        have cLt : (zI al < h9 (some (a, i0, j0))) ↔ al < a := zI_lt (by omega) (by omega)
        have cE2 : (zI al = h9 (some (a, i0, j0))) ↔ al = a := zI_eq (by omega) (by omega)
        have g1 := glI_le v3 v4
        have g2 := glI_le hi hj'
        have cG : (f_M_glasses (h7 (some (a, i0, j0))) (h8 (some (a, i0, j0))) ≤ f_M_glasses (zI i) (zI j)) ↔ glI i0 j0 ≤ glI i j := by
          show f_M_glasses (zI i0) (zI j0) ≤ _ ↔ _
          rw [gl_m v3 v4, hgl, zI_le (by omega) (by omega)]
          omega
        rw [hPk] at S1
        refine ⟨fun z => absurd z (show ¬ (1 : Int32) = 0 by decide), fun _ => ⟨fun c7 => ?_, fun c7 => ⟨fun c8 => ⟨fun c9 => ?_, fun c9 => ?_⟩, fun c8 => ?_⟩⟩⟩
        · rw [if_pos (Or.inl (cLt.mp c7))] at S1
          rw [S1] at K'
          exact K'
        · rw [if_neg (by have := mtn cLt c7; have := cG.mp c9; omega)] at S1
          rw [S1] at K'
          exact K'
        · rw [if_pos (Or.inr ⟨cE2.mp c8, by have := mtn cG c9; omega⟩)] at S1
          rw [S1] at K'
          exact K'
        · rw [if_neg (by have := mtn cLt c7; have := mtn cE2 c8; omega)] at S1
          rw [S1] at K'
          exact K'
def hOut (w h : Nat) (X Y : Nat → Nat) (b o : Nat) (r u : Int) (i : Int) (s : Option (Int × Int × Int)) : Option (Int × Int × Int) := foldUp (hSt w h X Y b o r u i) (-10) 21 s
/-- the answer of hits -/
def hV (x5 : Int32) (s : Option (Int × Int × Int)) : Int32 := match s with
  | none => -100000000
  | some (_, i, j) => if x5 = 0 then zI (glI i j : Nat) else if x5 = 1 then zI i else zI j
theorem hits_out_m {G : rx_Gh} {F : Int32 → rx_Hp → Prop} (ok : HOk nb w h g t X Y A) (H : HM nb w h g t X Y A hm) {b o : Nat} (hb : b < nb) (ho : o < nb) {r u : Int} (hr : -9 ≤ r ∧ r ≤ 9) (hu : -9 ≤ u ∧ u ≤ 9) (x5 : Int32) :
    ∀ (m : Nat) (i : Int) (s : Option (Int × Int × Int)), i + m = 11 → -10 ≤ i → hInv s → F (hV x5 (foldUp (hOut w h X Y b o r u) i m s)) hm →
      Rn wM G 3 q_M_hits 77 [some (.ref 0), some (.int (zI b)), some (.int (zI r)), some (.int (zI u)), some (.int (zI o)), some (.int x5), some (.int (b2 s.isSome)), some (.int (h7 s)), some (.int (h8 s)), some (.int (h9 s)), some (.int (zI i)), none, none, none, none, none] [] hm (rI F) := by
  have e10 : (10 : Int32) = zI 10 := by decide
  intro m
  induction m with
  | zero =>
    intro i s hi _ hs K
    have hc : 10 < zI i := by rw [e10, zI_lt (by omega) (by omega)]; omega
    refine w_M_hits_77 _ _ _ _ _ _ _ _ _ _ ⟨fun _ => ?_, fun c => absurd hc c⟩
    rw [foldUp] at K
    cases s with
    | none => exact K
    | some v =>
      obtain ⟨a, i0, j0⟩ := v
      obtain ⟨v1, v2, v3, v4⟩ := hs a i0 j0 rfl
      rw [show (b2 (some (a, i0, j0)).isSome) = 1 from rfl, if_neg (by decide)]
      show F (if x5 = 0 then f_M_glasses (zI i0) (zI j0) else if x5 = 1 then zI i0 else zI j0) hm
      rw [gl_m v3 v4]
      exact K
  | succ m ih =>
    intro i s hi hi2 hs K
    have hc : ¬ 10 < zI i := by rw [e10, zI_lt (by omega) (by omega)]; omega
    refine w_M_hits_77 _ _ _ _ _ _ _ _ _ _ ⟨fun c => absurd c hc, fun _ => ?_⟩
    refine hits_in_m (i := i) ok H hb ho hr hu (by omega) x5 21 (-10) s (by omega) (by omega) hs (fun s' e hs' => ?_)
    rw [show zI i + 1 = zI (i + 1) from zI_add i 1]
    refine ih (i + 1) s' (by omega) (by omega) hs' ?_
    rw [foldUp] at K
    rw [e]
    exact K
end HIT

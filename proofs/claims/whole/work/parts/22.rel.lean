/-! what has not changed between two states of the cells; the groups of the state -/
def Fr (fs : List (Nat × Nat)) (as : List Nat) (hp hp' : rx_Hp) : Prop := (∀ k j, (k, j) ∉ fs → hp'.1 k j = hp.1 k j) ∧ (∀ k, k ∉ as → hp'.2.1 k = hp.2.1 k) ∧ hp'.2.2 = hp.2.2
theorem Fr.rf {fs : List (Nat × Nat)} {as : List Nat} {hp : rx_Hp} : Fr fs as hp hp := ⟨fun _ _ _ => rfl, fun _ _ => rfl, rfl⟩
theorem Fr.tr {fs : List (Nat × Nat)} {as : List Nat} {a b c : rx_Hp} (h1 : Fr fs as a b) (h2 : Fr fs as b c) : Fr fs as a c := ⟨fun k j h => (h2.1 k j h).trans (h1.1 k j h), fun k h => (h2.2.1 k h).trans (h1.2.1 k h), h2.2.2.trans h1.2.2⟩
theorem Fr.mono {fs fs' : List (Nat × Nat)} {as as' : List Nat} {a b : rx_Hp} (h : Fr fs as a b) (h1 : ∀ x ∈ fs, x ∈ fs') (h2 : ∀ x ∈ as, x ∈ as') : Fr fs' as' a b := ⟨fun k j q => h.1 k j (fun z => q (h1 _ z)), fun k q => h.2.1 k (fun z => q (h2 _ z)), h.2.2⟩
theorem Fr.pf {fs : List (Nat × Nat)} {as : List Nat} {a b : rx_Hp} (h : Fr fs as a b) {k j : Nat} {x : Int32} (hm : (k, j) ∈ fs) : Fr fs as a (rx_pf b k j x) := by
  refine ⟨fun k' j' q => ?_, h.2.1, h.2.2⟩
  rw [← h.1 k' j' q]
  simp only [rx_pf]
  by_cases h1 : k' = k
  · subst h1
    by_cases h2 : j' = j
    · subst h2; exact absurd hm q
    · simp [h2]
  · simp [h1]
theorem Fr.pa {fs : List (Nat × Nat)} {as : List Nat} {a b : rx_Hp} (h : Fr fs as a b) {k i : Nat} {x : Int32} (hm : k ∈ as) : Fr fs as a (rx_pa b k i x) := by
  refine ⟨h.1, fun k' q => ?_, h.2.2⟩
  rw [← h.2.1 k' q]
  simp only [rx_pa]
  by_cases h1 : k' = k
  · subst h1; exact absurd hm q
  · simp [h1]
theorem pf_same (hp : rx_Hp) (k j : Nat) (x : Int32) : (rx_pf hp k j x).1 k j = x := by simp [rx_pf]
theorem pf_ne (hp : rx_Hp) {k j k' j' : Nat} (x : Int32) (h : ¬ (k' = k ∧ j' = j)) : (rx_pf hp k j x).1 k' j' = hp.1 k' j' := by
  simp only [rx_pf]
  by_cases h1 : k' = k
  · subst h1
    by_cases h2 : j' = j
    · exact absurd ⟨rfl, h2⟩ h
    · simp [h2]
  · simp [h1]
theorem pf_a (hp : rx_Hp) (k j : Nat) (x : Int32) : (rx_pf hp k j x).2.1 = hp.2.1 := rfl
theorem pf_l (hp : rx_Hp) (k j : Nat) (x : Int32) : (rx_pf hp k j x).2.2 = hp.2.2 := rfl
theorem pa_f (hp : rx_Hp) (k i : Nat) (x : Int32) : (rx_pa hp k i x).1 = hp.1 := rfl
theorem pa_l (hp : rx_Hp) (k i : Nat) (x : Int32) : (rx_pa hp k i x).2.2 = hp.2.2 := rfl
theorem pa_same (hp : rx_Hp) (k i : Nat) (x : Int32) : (rx_pa hp k i x).2.1 k i = x := by simp [rx_pa, upd]
theorem pa_ne (hp : rx_Hp) {k i k' i' : Nat} (x : Int32) (h : ¬ (k' = k ∧ i' = i)) : (rx_pa hp k i x).2.1 k' i' = hp.2.1 k' i' := by
  simp only [rx_pa, upd]
  by_cases h1 : k' = k
  · subst h1
    by_cases h2 : i' = i
    · exact absurd ⟨rfl, h2⟩ h
    · simp [upd, h2]
  · simp [h1]
/-! groups -/
def TOk (n : Nat) (bt : Nat → Nat) : Prop := n ≤ 160 ∧ ∀ i, i < n → 1 ≤ bt i ∧ bt i ≤ 255
def TC (n : Nat) (bt : Nat → Nat) (hc : rx_Hp) : Prop := hc.1 1 1 = zI n ∧ ∀ i, i < n → hc.2.1 2 i = zI (bt i)
def TM (n : Nat) (bt : Nat → Nat) (hm : rx_Hp) : Prop := hm.1 0 2 = zI n ∧ ∀ i, i < n → hm.2.1 1 i = zI (bt i)
/-- the hall: bodies, width, height, glass, takes; places, arms -/
def HOk (nb w h g t : Nat) (X Y A : Nat → Nat) : Prop := nb ≤ 6 ∧ w ≤ 20 ∧ h ≤ 20 ∧ g < 16 ∧ t ≤ 99 ∧ (0 < nb → 1 ≤ w ∧ 1 ≤ h) ∧ ∀ b, b < nb → X b ≤ w ∧ Y b ≤ h ∧ A b ≤ 1
def HC (nb w h g t : Nat) (X Y A : Nat → Nat) (hc : rx_Hp) : Prop := (hc.1 3 4 = zI nb ∧ hc.1 3 5 = zI w ∧ hc.1 3 6 = zI h ∧ hc.1 3 7 = zI g ∧ hc.1 3 8 = zI t) ∧ (∀ b, b < nb → hc.2.1 4 b = zI (X b) ∧ hc.2.1 5 b = zI (Y b) ∧ hc.2.1 6 b = zI (A b)) ∧ (0 < nb → ∀ k, k ≤ 20 → hc.2.1 7 k = zI (brI t k))
def HM (nb w h g t : Nat) (X Y A : Nat → Nat) (hm : rx_Hp) : Prop := (hm.1 0 23 = zI nb ∧ hm.1 0 24 = zI w ∧ hm.1 0 25 = zI h ∧ hm.1 0 26 = zI g ∧ hm.1 0 27 = zI t) ∧ (∀ b, b < nb → hm.2.1 13 b = zI (X b) ∧ hm.2.1 14 b = zI (Y b) ∧ hm.2.1 15 b = zI (A b))
theorem TC.fr {n : Nat} {bt : Nat → Nat} {a b : rx_Hp} {fs : List (Nat × Nat)} {as : List Nat} (h : TC n bt a) (f : Fr fs as a b) (h1 : (1, 1) ∉ fs := by decide) (h2 : 2 ∉ as := by decide) : TC n bt b :=
  ⟨(f.1 1 1 h1).trans h.1, fun i hi => by rw [f.2.1 2 h2]; exact h.2 i hi⟩
theorem TM.fr {n : Nat} {bt : Nat → Nat} {a b : rx_Hp} {fs : List (Nat × Nat)} {as : List Nat} (h : TM n bt a) (f : Fr fs as a b) (h1 : (0, 2) ∉ fs := by decide) (h2 : 1 ∉ as := by decide) : TM n bt b :=
  ⟨(f.1 0 2 h1).trans h.1, fun i hi => by rw [f.2.1 1 h2]; exact h.2 i hi⟩
theorem HC.fr {nb w hh g t : Nat} {X Y A : Nat → Nat} {a b : rx_Hp} {fs : List (Nat × Nat)} {as : List Nat} (h : HC nb w hh g t X Y A a) (f : Fr fs as a b) (h1 : (3, 4) ∉ fs ∧ (3, 5) ∉ fs ∧ (3, 6) ∉ fs ∧ (3, 7) ∉ fs ∧ (3, 8) ∉ fs := by decide) (h2 : 4 ∉ as ∧ 5 ∉ as ∧ 6 ∉ as ∧ 7 ∉ as := by decide) : HC nb w hh g t X Y A b := by
  obtain ⟨⟨q1, q2, q3, q4, q5⟩, q6, q7⟩ := h
  refine ⟨⟨(f.1 3 4 h1.1).trans q1, (f.1 3 5 h1.2.1).trans q2, (f.1 3 6 h1.2.2.1).trans q3, (f.1 3 7 h1.2.2.2.1).trans q4, (f.1 3 8 h1.2.2.2.2).trans q5⟩, fun b hb => ?_, fun h0 k hk => ?_⟩
  · rw [f.2.1 4 h2.1, f.2.1 5 h2.2.1, f.2.1 6 h2.2.2.1]; exact q6 b hb
  · rw [f.2.1 7 h2.2.2.2]; exact q7 h0 k hk
theorem HM.fr {nb w hh g t : Nat} {X Y A : Nat → Nat} {a b : rx_Hp} {fs : List (Nat × Nat)} {as : List Nat} (h : HM nb w hh g t X Y A a) (f : Fr fs as a b) (h1 : (0, 23) ∉ fs ∧ (0, 24) ∉ fs ∧ (0, 25) ∉ fs ∧ (0, 26) ∉ fs ∧ (0, 27) ∉ fs := by decide) (h2 : 13 ∉ as ∧ 14 ∉ as ∧ 15 ∉ as := by decide) : HM nb w hh g t X Y A b := by
  obtain ⟨⟨q1, q2, q3, q4, q5⟩, q6⟩ := h
  refine ⟨⟨(f.1 0 23 h1.1).trans q1, (f.1 0 24 h1.2.1).trans q2, (f.1 0 25 h1.2.2.1).trans q3, (f.1 0 26 h1.2.2.2.1).trans q4, (f.1 0 27 h1.2.2.2.2).trans q5⟩, fun b hb => ?_⟩
  rw [f.2.1 13 h2.1, f.2.1 14 h2.2.1, f.2.1 15 h2.2.2]; exact q6 b hb
/-! which bodies, which images there are -/
def isB (nb : Nat) (a : Int32) : Bool := decide (0 ≤ a.toInt) && decide (a.toInt < nb)
def isIm (nb : Nat) (a i j : Int32) : Bool := isB nb a && (decide (-10 ≤ i.toInt) && decide (i.toInt ≤ 10) && (decide (-10 ≤ j.toInt) && decide (j.toInt ≤ 10)))
theorem i_lt (a : Int32) (z : Int) (h : -2147483648 ≤ z ∧ z < 2147483648) : a < zI z ↔ a.toInt < z := by rw [Int32.lt_iff_toInt_lt, zI_toInt h.1 h.2]
theorem i_lt' (a : Int32) (z : Int) (h : -2147483648 ≤ z ∧ z < 2147483648) : zI z < a ↔ z < a.toInt := by rw [Int32.lt_iff_toInt_lt, zI_toInt h.1 h.2]
theorem i_le (a : Int32) (z : Int) (h : -2147483648 ≤ z ∧ z < 2147483648) : a ≤ zI z ↔ a.toInt ≤ z := by rw [Int32.le_iff_toInt_le, zI_toInt h.1 h.2]
theorem i_le' (a : Int32) (z : Int) (h : -2147483648 ≤ z ∧ z < 2147483648) : zI z ≤ a ↔ z ≤ a.toInt := by rw [Int32.le_iff_toInt_le, zI_toInt h.1 h.2]
theorem has_c {nb : Nat} (h6 : nb ≤ 6) {hc : rx_Hp} (h : hc.1 3 4 = zI nb) (a : Int32) : f_Ha_has a hc = b2 (isB nb a) := by
  unfold f_Ha_has
  rw [h, show (0 : Int32) = zI 0 from by decide, show (1 : Int32) = zI 1 from by decide]
  simp only [i_lt a 0 (by omega), i_le' a nb (by omega)]
  unfold b2 isB
  by_cases q1 : a.toInt < 0
  · rw [if_pos q1, if_neg (by simp; omega)]; decide
  · by_cases q2 : (nb : Int) ≤ a.toInt
    · rw [if_neg q1, if_pos q2, if_neg (by simp; omega)]; decide
    · rw [if_neg q1, if_neg q2, if_pos (by simp; omega)]; decide
theorem in_m (a : Int32) {lo hi : Int} (h1 : -2147483648 ≤ lo ∧ lo < 2147483648) (h2 : -2147483648 ≤ hi ∧ hi < 2147483648) : f_M_in a (zI lo) (zI hi) = b2 (decide (lo ≤ a.toInt) && decide (a.toInt ≤ hi)) := by
  unfold f_M_in
  simp only [i_lt a lo h1, i_lt' a hi h2]
  unfold b2
  by_cases q1 : a.toInt < lo
  · rw [if_pos q1, if_neg (by simp; omega)]
  · by_cases q2 : hi < a.toInt
    · rw [if_neg q1, if_pos q2, if_neg (by simp; omega)]
    · rw [if_neg q1, if_neg q2, if_pos (by simp; omega)]
theorem isB_m {nb : Nat} (h6 : nb ≤ 6) {hm : rx_Hp} (h : hm.1 0 23 = zI nb) (a : Int32) : f_M_isBody a hm = b2 (isB nb a) := by
  unfold f_M_isBody
  rw [h, show zI nb - 1 = zI (nb - 1) from zI_sub nb 1, show (0 : Int32) = zI 0 from by decide, in_m a (by omega) (by omega)]
  unfold isB
  congr 2
  simp only [decide_eq_decide]
  omega
theorem hasI_c {nb : Nat} (h6 : nb ≤ 6) {hc : rx_Hp} (h : hc.1 3 4 = zI nb) (a i j : Int32) : f_GR_hasImage a i j hc = b2 (isIm nb a i j) := by
  unfold f_GR_hasImage
  rw [has_c h6 h, show (-10 : Int32) = zI (-10) from by decide, show (10 : Int32) = zI 10 from by decide]
  simp only [i_lt i (-10) (by omega), i_lt' i 10 (by omega), i_lt j (-10) (by omega), i_lt' j 10 (by omega)]
  unfold isIm
  cases isB nb a
  · simp [b2]
  · by_cases q1 : i.toInt < -10
    · simp [b2, q1]; omega
    · by_cases q2 : 10 < i.toInt
      · simp [b2, q1, q2]; omega
      · by_cases q3 : j.toInt < -10
        · simp [b2, q1, q2, q3]; omega
        · by_cases q4 : 10 < j.toInt
          · simp [b2, q1, q2, q3, q4]; try omega
          · simp [b2, q1, q2, q3, q4]; try omega
theorem isI_m {nb : Nat} (h6 : nb ≤ 6) {hm : rx_Hp} (h : hm.1 0 23 = zI nb) (a i j : Int32) : f_M_isImage a i j hm = b2 (isIm nb a i j) := by
  unfold f_M_isImage
  rw [isB_m h6 h, show (-10 : Int32) = zI (-10) from by decide, show (10 : Int32) = zI 10 from by decide, in_m i (by omega) (by omega), in_m j (by omega) (by omega)]
  unfold isIm
  generalize (decide (-10 ≤ i.toInt) && decide (i.toInt ≤ 10)) = u
  generalize (decide (-10 ≤ j.toInt) && decide (j.toInt ≤ 10)) = v
  cases isB nb a <;> cases u <;> cases v <;> simp [b2]
theorem isB_of {nb : Nat} {a : Int32} (h : isB nb a = true) : ∃ b : Nat, b < nb ∧ a = zI b := by
  unfold isB at h
  simp only [Bool.and_eq_true, decide_eq_true_eq] at h
  exact ⟨a.toInt.toNat, by omega, by rw [show ((a.toInt.toNat : Nat) : Int) = a.toInt by omega, zI_self]⟩
theorem isIm_of {nb : Nat} {a i j : Int32} (h : isIm nb a i j = true) : ∃ (b : Nat) (u v : Int), b < nb ∧ a = zI b ∧ i = zI u ∧ j = zI v ∧ (-10 ≤ u ∧ u ≤ 10) ∧ (-10 ≤ v ∧ v ≤ 10) := by
  unfold isIm at h
  simp only [Bool.and_eq_true, decide_eq_true_eq] at h
  obtain ⟨b, h1, h2⟩ := isB_of h.1
  exact ⟨b, i.toInt, j.toInt, h1, h2, (zI_self i).symm, (zI_self j).symm, h.2.1, h.2.2⟩

/-! near, within: the class -/
def sdI (w xb xe : Nat) (i : Int) : Int := (spI i w xb - xe) * (spI i w xb - xe)
def lnC (p : Nat) : Nat := (hiC p - loC p + 1).toNat
def nrR (g : Nat) (i : Int) (j : Int) (m : Nat) : List (Int × Int) := lsUp (fun j => [(i, j)]) j m
def nrE (g : Nat) (i : Int) (m : Nat) : List (Int × Int) := lsUp (fun i => nrR g i (loC (g / 4)) (lnC (g / 4))) i m
def nrA (g : Nat) : List (Int × Int) := nrE g (loC (g % 4)) (lnC (g % 4))
def nrF (w h : Nat) (X Y : Nat → Nat) (e b : Nat) (x : Int × Int) : Int := farI w h X Y e b x.1 x.2
def diF : List (Nat × Nat) := [(40, 3), (40, 4), (40, 5), (40, 6), (40, 7), (40, 8), (40, 9)]
def MS (w h g : Nat) (X Y : Nat → Nat) (e b : Nat) (hc : rx_Hp) : Prop := (hc.1 40 3 = zI (loC (g % 4)) ∧ hc.1 40 4 = zI (hiC (g % 4)) ∧ hc.1 40 5 = zI (loC (g / 4)) ∧ hc.1 40 6 = zI (hiC (g / 4))) ∧ (∀ i : Int, loC (g % 4) ≤ i → i ≤ hiC (g % 4) → hc.2.1 41 (i + 10).toNat = zI (sdI w (X b) (X e) i)) ∧ (∀ j : Int, loC (g / 4) ≤ j → j ≤ hiC (g / 4) → hc.2.1 42 (j + 10).toNat = zI (sdI h (Y b) (Y e) j))
theorem MS.fr {w h g : Nat} {X Y : Nat → Nat} {e b : Nat} {a c : rx_Hp} {fs : List (Nat × Nat)} {as : List Nat} (M : MS w h g X Y e b a) (f : Fr fs as a c) (h1 : (40, 3) ∉ fs ∧ (40, 4) ∉ fs ∧ (40, 5) ∉ fs ∧ (40, 6) ∉ fs := by decide) (h2 : 41 ∉ as ∧ 42 ∉ as := by decide) : MS w h g X Y e b c := by
  obtain ⟨⟨m1, m2, m3, m4⟩, m5, m6⟩ := M
  refine ⟨⟨(f.1 _ _ h1.1).trans m1, (f.1 _ _ h1.2.1).trans m2, (f.1 _ _ h1.2.2.1).trans m3, (f.1 _ _ h1.2.2.2).trans m4⟩, fun i i1 i2 => ?_, fun i i1 i2 => ?_⟩
  · rw [f.2.1 41 h2.1]; exact m5 i i1 i2
  · rw [f.2.1 42 h2.2]; exact m6 i i1 i2
theorem lnC_z (p : Nat) : loC p + lnC p = hiC p + 1 := by
  have := loC_bd p
  have := hiC_bd p
  unfold lnC; omega
theorem sdI_bd {w xb xe : Nat} (hw : w ≤ 20) (hb : xb ≤ w) (he : xe ≤ w) {i : Int} (hi : -10 ≤ i ∧ i ≤ 10) : 0 ≤ sdI w xb xe i ∧ sdI w xb xe i ≤ 57600 := by
  have b := spI_bd (i := i) (w := w) (x := xb) hi (by omega) (by omega)
  unfold sdI
  refine ⟨sqI _, ?_⟩
  have h1 : -240 ≤ spI i w xb - xe ∧ spI i w xb - xe ≤ 240 := by omega
  generalize spI i w xb - xe = z at h1
  have : 0 ≤ (240 - z) * (240 + z) := Int.mul_nonneg (by omega) (by omega)
  rw [Int.mul_add, Int.sub_mul, Int.sub_mul, Int.mul_comm z 240] at this
  omega
section DIS
variable {nb w h g t : Nat} {X Y A : Nat → Nat}
theorem ms_j {G : rx_Gh} {F : rx_Hp → Prop} (ok : HOk nb w h g t X Y A) {b e : Nat} (hb : b < nb) (he : e < nb) : ∀ (m : Nat) (j : Int) (hc : rx_Hp), HC nb w h g t X Y A hc → j + m = hiC (g / 4) + 1 → loC (g / 4) ≤ j → (hc.1 40 3 = zI (loC (g % 4)) ∧ hc.1 40 4 = zI (hiC (g % 4)) ∧ hc.1 40 5 = zI (loC (g / 4)) ∧ hc.1 40 6 = zI (hiC (g / 4))) → (∀ i : Int, loC (g % 4) ≤ i → i ≤ hiC (g % 4) → hc.2.1 41 (i + 10).toNat = zI (sdI w (X b) (X e) i)) → (∀ k : Int, loC (g / 4) ≤ k → k < j → hc.2.1 42 (k + 10).toNat = zI (sdI h (Y b) (Y e) k)) → (∀ h', Fr diF [41, 42] hc h' → MS w h g X Y e b h' → F h') → Rn wC G 3 q_Di_measure 126 [some (.ref 40), some (.int (zI b)), some (.int (zI e)), some (.int (zI j)), none] [] hc (rV F) := by
  have h6 := ok.1
  have b1 := loC_bd (g / 4)
  have b2 := hiC_bd (g / 4)
  intro m
  induction m with
  | zero =>
    intro j hc H hj hl M I J K
    have hcn : hc.1 40 6 < zI j := by rw [M.2.2.2, zI_lt (by omega) (by omega)]; omega
    exact w_Di_measure_126 _ _ _ ⟨fun _ => K hc Fr.rf ⟨M, I, fun k k1 k2 => J k k1 (by omega)⟩, fun c => absurd hcn c⟩
  | succ m ih =>
    intro j hc H hj hl M I J K
    have hcn : ¬ hc.1 40 6 < zI j := by rw [M.2.2.2, zI_lt (by omega) (by omega)]; omega
    refine w_Di_measure_126 _ _ _ ⟨fun c => absurd c hcn, fun _ => ?_⟩
    rw [show zI j + 10 = zI (j + 10) from zI_add j 10, show zI j + 1 = zI (j + 1) from zI_add j 1, zI_cN (by omega), zI_cN (by omega), zI_clamp (by omega) (by omega), H.1.2.2.1, (H.2.1 b hb).2.1, (H.2.1 e he).2.1, spot_c (by omega) (by omega), zI_sub, zI_mul]
    refine ⟨vp_N (by omega) (by omega), vp_N (by omega) (by omega), vp_in_zI (by omega) (by omega) (by omega), ?_⟩
    have fr : Fr diF [41, 42] hc (rx_pa hc 42 (j + 10).toNat (zI ((spI j h (Y b) - Y e) * (spI j h (Y b) - Y e)))) := Fr.rf.pa (by decide)
    refine ih (j + 1) _ (H.fr fr) (by omega) (by omega) M (fun i i1 i2 => ?_) (fun k k1 k2 => ?_) (fun h' f' => K h' (fr.tr f'))
    · rw [pa_ne _ _ (by simp)]; exact I i i1 i2
    · by_cases q : k = j
      · subst q; rw [pa_same]; rfl
      · rw [pa_ne _ _ (by simp; omega)]; exact J k k1 (by omega)
theorem ms_i {G : rx_Gh} {F : rx_Hp → Prop} (ok : HOk nb w h g t X Y A) {b e : Nat} (hb : b < nb) (he : e < nb) : ∀ (m : Nat) (j : Int) (hc : rx_Hp), HC nb w h g t X Y A hc → j + m = hiC (g % 4) + 1 → loC (g % 4) ≤ j → (hc.1 40 3 = zI (loC (g % 4)) ∧ hc.1 40 4 = zI (hiC (g % 4)) ∧ hc.1 40 5 = zI (loC (g / 4)) ∧ hc.1 40 6 = zI (hiC (g / 4))) → (∀ i : Int, loC (g % 4) ≤ i → i < j → hc.2.1 41 (i + 10).toNat = zI (sdI w (X b) (X e) i)) → (∀ h', Fr diF [41, 42] hc h' → MS w h g X Y e b h' → F h') → Rn wC G 3 q_Di_measure 61 [some (.ref 40), some (.int (zI b)), some (.int (zI e)), some (.int (zI j)), none] [] hc (rV F) := by
  have h6 := ok.1
  have b1 := loC_bd (g % 4)
  have b2 := hiC_bd (g % 4)
  intro m
  induction m with
  | zero =>
    intro j hc H hj hl M I K
    have hcn : hc.1 40 4 < zI j := by rw [M.2.1, zI_lt (by omega) (by omega)]; omega
    refine w_Di_measure_61 _ _ _ ⟨fun _ => ?_, fun c => absurd hcn c⟩
    rw [M.2.2.1]
    have := lnC_z (g / 4)
    exact ms_j ok hb he (lnC (g / 4)) (loC (g / 4)) hc H (by omega) (by omega) M (fun i i1 i2 => I i i1 (by omega)) (fun k k1 k2 => by omega) K
  | succ m ih =>
    intro j hc H hj hl M I K
    have hcn : ¬ hc.1 40 4 < zI j := by rw [M.2.1, zI_lt (by omega) (by omega)]; omega
    refine w_Di_measure_61 _ _ _ ⟨fun c => absurd c hcn, fun _ => ?_⟩
    rw [show zI j + 10 = zI (j + 10) from zI_add j 10, show zI j + 1 = zI (j + 1) from zI_add j 1, zI_cN (by omega), zI_cN (by omega), zI_clamp (by omega) (by omega), H.1.2.1, (H.2.1 b hb).1, (H.2.1 e he).1, spot_c (by omega) (by omega), zI_sub, zI_mul]
    refine ⟨vp_N (by omega) (by omega), vp_N (by omega) (by omega), vp_in_zI (by omega) (by omega) (by omega), ?_⟩
    have fr : Fr diF [41, 42] hc (rx_pa hc 41 (j + 10).toNat (zI ((spI j w (X b) - X e) * (spI j w (X b) - X e)))) := Fr.rf.pa (by decide)
    refine ih (j + 1) _ (H.fr fr) (by omega) (by omega) M (fun k k1 k2 => ?_) (fun h' f' => K h' (fr.tr f'))
    by_cases q : k = j
    · subst q; rw [pa_same]; rfl
    · rw [pa_ne _ _ (by simp; omega)]; exact I k k1 (by omega)
theorem ms_c {G : rx_Gh} {F : rx_Hp → Prop} (ok : HOk nb w h g t X Y A) {b e : Nat} (hb : b < nb) (he : e < nb) {hc : rx_Hp} (H : HC nb w h g t X Y A hc) (K : ∀ h', Fr diF [41, 42] hc h' → MS w h g X Y e b h' → F h') : Ev wC G 3 q_Di_measure [.ref 40, .int (zI b), .int (zI e)] hc (rV F) := by
  have e1 := lowI_c ⟨g, ok.2.2.2.1⟩
  have e2 := highI_c ⟨g, ok.2.2.2.1⟩
  have e3 := lowJ_c ⟨g, ok.2.2.2.1⟩
  have e4 := highJ_c ⟨g, ok.2.2.2.1⟩
  simp only at e1 e2 e3 e4
  refine w_Di_measure _ _ ?_
  rw [H.1.2.2.2.1, e1, e2, e3, e4]
  have fr : Fr diF [41, 42] hc (rx_pf (rx_pf (rx_pf (rx_pf hc 40 3 (zI (loC (g % 4)))) 40 4 (zI (hiC (g % 4)))) 40 5 (zI (loC (g / 4)))) 40 6 (zI (hiC (g / 4)))) := (((Fr.rf.pf (by decide)).pf (by decide)).pf (by decide)).pf (by decide)
  have := lnC_z (g % 4)
  refine ms_i ok hb he (lnC (g % 4)) (loC (g % 4)) _ (H.fr fr) (by omega) (by omega) ⟨?_, ?_, ?_, ?_⟩ (fun i i1 i2 => by omega) (fun h' f' => K h' (fr.tr f'))
  · rw [pf_ne _ _ (by decide), pf_ne _ _ (by decide), pf_ne _ _ (by decide), pf_same]
  · rw [pf_ne _ _ (by decide), pf_ne _ _ (by decide), pf_same]
  · rw [pf_ne _ _ (by decide), pf_same]
  · rw [pf_same]
/-! how many are no farther -/
def nrC (w h g : Nat) (X Y : Nat → Nat) (e b : Nat) (v : Int) (L : List (Int × Int)) : Nat := L.countP (fun x => decide (nrF w h X Y e b x ≤ v))
theorem nrR_cons {g : Nat} {i j : Int} {m : Nat} : nrR g i j (m + 1) = (i, j) :: nrR g i (j + 1) m := rfl
theorem nrE_cons {g : Nat} {i : Int} {m : Nat} : nrE g i (m + 1) = nrR g i (loC (g / 4)) (lnC (g / 4)) ++ nrE g (i + 1) m := rfl
theorem nrR_mem {g : Nat} {i : Int} : ∀ (m : Nat) (j : Int) (x : Int × Int), x ∈ nrR g i j m → x.1 = i ∧ j ≤ x.2 ∧ x.2 < j + m
  | 0, j, x, h => by cases h
  | m + 1, j, x, h => by
    rw [nrR_cons] at h
    rcases List.mem_cons.mp h with rfl | h
    · exact ⟨rfl, Int.le_refl _, by show j < _; omega⟩
    · have := nrR_mem m (j + 1) x h; exact ⟨this.1, by omega, by omega⟩
theorem nrE_mem {g : Nat} : ∀ (m : Nat) (i : Int) (x : Int × Int), x ∈ nrE g i m → (i ≤ x.1 ∧ x.1 < i + m) ∧ loC (g / 4) ≤ x.2 ∧ x.2 ≤ hiC (g / 4)
  | 0, i, x, h => by cases h
  | m + 1, i, x, h => by
    rw [nrE_cons] at h
    have := lnC_z (g / 4)
    rcases List.mem_append.mp h with h | h
    · have := nrR_mem _ _ x h; exact ⟨by omega, by omega, by omega⟩
    · have := nrE_mem m (i + 1) x h; exact ⟨by omega, this.2⟩
theorem nrF_eq {w h : Nat} {X Y : Nat → Nat} {e b : Nat} {i j : Int} : nrF w h X Y e b (i, j) = sdI w (X b) (X e) i + sdI h (Y b) (Y e) j := rfl
theorem nrF_bd (ok : HOk nb w h g t X Y A) {b e : Nat} (hb : b < nb) (he : e < nb) {i j : Int} (hi : -10 ≤ i ∧ i ≤ 10) (hj : -10 ≤ j ∧ j ≤ 10) : 0 ≤ nrF w h X Y e b (i, j) ∧ nrF w h X Y e b (i, j) ≤ 115200 := by
  have o := ok.2.2.2.2.2.2
  have s1 := sdI_bd ok.2.1 (o b hb).1 (o e he).1 hi
  have s2 := sdI_bd ok.2.2.1 (o b hb).2.1 (o e he).2.1 hj
  rw [nrF_eq]; omega
theorem nrA_bd (ok : HOk nb w h g t X Y A) {b e : Nat} (hb : b < nb) (he : e < nb) : ∀ x ∈ nrA g, 0 ≤ nrF w h X Y e b x ∧ nrF w h X Y e b x ≤ 115200 := by
  intro x hx
  have m := nrE_mem _ _ x hx
  have := loC_bd (g % 4); have := hiC_bd (g % 4); have := lnC_z (g % 4)
  have := loC_bd (g / 4); have := hiC_bd (g / 4)
  exact nrF_bd ok hb he (i := x.1) (j := x.2) (by omega) (by omega)
theorem up_j {G : rx_Gh} {F : Int32 → rx_Hp → Prop} (ok : HOk nb w h g t X Y A) {b e : Nat} (hb : b < nb) (he : e < nb) {hc : rx_Hp} (M : MS w h g X Y e b hc) {v : Int} (hv : -1 ≤ v ∧ v ≤ 131072) {i : Int} (hi : -10 ≤ i ∧ i ≤ 10) : ∀ (m : Nat) (j : Int) (s : Nat), j + m = hiC (g / 4) + 1 → loC (g / 4) ≤ j → Rn wC G 1 q_Di_upTo 7 [some (.ref 40), some (.int (zI v)), some (.int (zI (s + nrC w h g X Y e b v (nrR g i j m) : Nat))), some (.int (zI (i + 1))), none, none] [] hc (rI F) → Rn wC G 1 q_Di_upTo 39 [some (.ref 40), some (.int (zI v)), some (.int (zI s)), some (.int (zI i)), some (.int (zI (v - sdI w (X b) (X e) i))), some (.int (zI j))] [] hc (rI F) := by
  have b1 := loC_bd (g / 4)
  have b2 := hiC_bd (g / 4)
  have o := ok.2.2.2.2.2.2
  have s1 := sdI_bd ok.2.1 (o b hb).1 (o e he).1 hi
  intro m
  induction m with
  | zero =>
    intro j s hj hl K
    have hcn : hc.1 40 6 < zI j := by rw [M.1.2.2.2, zI_lt (by omega) (by omega)]; omega
    refine w_Di_upTo_39 _ _ _ _ _ ⟨fun _ => ?_, fun c => absurd hcn c⟩
    rw [show zI i + 1 = zI (i + 1) from zI_add i 1]
    exact K
  | succ m ih =>
    intro j s hj hl K
    have hcn : ¬ hc.1 40 6 < zI j := by rw [M.1.2.2.2, zI_lt (by omega) (by omega)]; omega
    have s2 := sdI_bd ok.2.2.1 (o b hb).2.1 (o e he).2.1 (i := j) (by omega)
    refine w_Di_upTo_39 _ _ _ _ _ ⟨fun c => absurd c hcn, fun _ => ?_⟩
    rw [show zI j + 10 = zI (j + 10) from zI_add j 10, show zI j + 1 = zI (j + 1) from zI_add j 1, zI_clamp (by omega) (by omega), M.2.2 j hl (by omega)]
    refine ⟨vp_in_zI (by omega) (by omega) (by omega), ?_⟩
    have q0 := zI_lt (a := v - sdI w (X b) (X e) i) (b := sdI h (Y b) (Y e) j) (by omega) (by omega)
    by_cases q : v - sdI w (X b) (X e) i < sdI h (Y b) (Y e) j
    · rw [if_pos (q0.mpr q)]
      refine ih (j + 1) s (by omega) (by omega) ?_
      have e1 : nrC w h g X Y e b v (nrR g i j (m + 1)) = nrC w h g X Y e b v (nrR g i (j + 1) m) := by
        unfold nrC
        rw [nrR_cons, List.countP_cons_of_neg (by rw [nrF_eq]; simp; omega)]
      rw [e1] at K; exact K
    · rw [if_neg (mt q0.mp q), show zI (s : Int) + 1 = zI ((s + 1 : Nat) : Int) from zI_add s 1]
      refine ih (j + 1) (s + 1) (by omega) (by omega) ?_
      have e1 : s + nrC w h g X Y e b v (nrR g i j (m + 1)) = s + 1 + nrC w h g X Y e b v (nrR g i (j + 1) m) := by
        unfold nrC
        rw [nrR_cons, List.countP_cons_of_pos (by rw [nrF_eq]; simp; omega)]; omega
      rw [e1] at K; exact K
theorem up_i {G : rx_Gh} {F : Int32 → rx_Hp → Prop} (ok : HOk nb w h g t X Y A) {b e : Nat} (hb : b < nb) (he : e < nb) {hc : rx_Hp} (M : MS w h g X Y e b hc) {v : Int} (hv : -1 ≤ v ∧ v ≤ 131072) : ∀ (m : Nat) (i : Int) (s : Nat), i + m = hiC (g % 4) + 1 → loC (g % 4) ≤ i → F (zI (s + nrC w h g X Y e b v (nrE g i m) : Nat)) hc → Rn wC G 1 q_Di_upTo 7 [some (.ref 40), some (.int (zI v)), some (.int (zI s)), some (.int (zI i)), none, none] [] hc (rI F) := by
  have b1 := loC_bd (g % 4)
  have b2 := hiC_bd (g % 4)
  have b3 := loC_bd (g / 4)
  have b4 := hiC_bd (g / 4)
  have o := ok.2.2.2.2.2.2
  intro m
  induction m with
  | zero =>
    intro i s hi hl K
    have hcn : hc.1 40 4 < zI i := by rw [M.1.2.1, zI_lt (by omega) (by omega)]; omega
    exact w_Di_upTo_7 _ _ _ ⟨fun _ => K, fun c => absurd hcn c⟩
  | succ m ih =>
    intro i s hi hl K
    have hcn : ¬ hc.1 40 4 < zI i := by rw [M.1.2.1, zI_lt (by omega) (by omega)]; omega
    have s1 := sdI_bd ok.2.1 (o b hb).1 (o e he).1 (i := i) (by omega)
    refine w_Di_upTo_7 _ _ _ ⟨fun c => absurd c hcn, fun _ => ?_⟩
    rw [show zI i + 10 = zI (i + 10) from zI_add i 10, show zI i + 1 = zI (i + 1) from zI_add i 1, zI_clamp (by omega) (by omega), M.2.1 i hl (by omega), zI_sub, M.1.2.2.1]
    have q0 := zI_lt (a := v - sdI w (X b) (X e) i) (b := 0) (by omega) (by omega)
    rw [show zI 0 = (0 : Int32) from by decide] at q0
    have ln := lnC_z (g / 4)
    refine ⟨vp_in_zI (by omega) (by omega) (by omega), fun c => ?_, fun c => ?_⟩
    · have c := q0.mp c
      refine ih (i + 1) s (by omega) (by omega) ?_
      have e1 : nrC w h g X Y e b v (nrE g i (m + 1)) = nrC w h g X Y e b v (nrE g (i + 1) m) := by
        unfold nrC
        rw [nrE_cons, List.countP_append]
        have : (nrR g i (loC (g / 4)) (lnC (g / 4))).countP (fun x => decide (nrF w h X Y e b x ≤ v)) = 0 := by
          refine List.countP_eq_zero.mpr (fun x hx => ?_)
          have m1 := nrR_mem _ _ x hx
          have s2 := sdI_bd ok.2.2.1 (o b hb).2.1 (o e he).2.1 (i := x.2) (by omega)
          have e2 : nrF w h X Y e b x = sdI w (X b) (X e) x.1 + sdI h (Y b) (Y e) x.2 := rfl
          rw [m1.1] at e2
          simp; omega
        omega
      rw [e1] at K; exact K
    · refine up_j ok hb he M hv (by omega) (lnC (g / 4)) (loC (g / 4)) s (by omega) (by omega) ?_
      refine ih (i + 1) _ (by omega) (by omega) ?_
      have e1 : s + nrC w h g X Y e b v (nrE g i (m + 1)) = s + nrC w h g X Y e b v (nrR g i (loC (g / 4)) (lnC (g / 4))) + nrC w h g X Y e b v (nrE g (i + 1) m) := by
        unfold nrC
        rw [nrE_cons, List.countP_append]; omega
      rw [e1] at K; exact K
theorem ut_c {G : rx_Gh} {F : Int32 → rx_Hp → Prop} (ok : HOk nb w h g t X Y A) {b e : Nat} (hb : b < nb) (he : e < nb) {hc : rx_Hp} (M : MS w h g X Y e b hc) {v : Int} (hv : -1 ≤ v ∧ v ≤ 131072) (K : F (zI (nrC w h g X Y e b v (nrA g) : Nat)) hc) : Ev wC G 1 q_Di_upTo [.ref 40, .int (zI v)] hc (rI F) := by
  refine w_Di_upTo _ ?_
  rw [M.1.1]
  have := lnC_z (g % 4)
  refine up_i ok hb he M hv (lnC (g % 4)) (loC (g % 4)) 0 (by omega) (by omega) ?_
  rw [Nat.zero_add]; exact K
end DIS

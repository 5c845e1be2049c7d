/-! Sight.sees, seen (class) -/
def siF : List (Nat × Nat) := [(43, 1), (43, 2), (43, 3), (43, 4), (43, 5), (43, 6), (43, 7), (43, 8)]
section SEC
variable {nb w h g t : Nat} {X Y A : Nat → Nat} {hc : rx_Hp}
theorem se_o {G : rx_Gh} {F : Int32 → rx_Hp → Prop} (ok : HOk nb w h g t X Y A) (H : HC nb w h g t X Y A hc) {g' : Nat} {b e : Nat} (hb : b < nb) (he : e < nb) {i j : Int} (hi : -10 ≤ i ∧ i ≤ 10) (hj : -10 ≤ j ∧ j ≤ 10) (S : SG (X e) (Y e) (spI i w (X b) - X e) (spI j h (Y b) - Y e) (loX (loC (g' % 4)) i) (hiX (hiC (g' % 4)) i) (loX (loC (g' / 4)) j) (hiX (hiC (g' / 4)) j) hc) : ∀ (m o : Nat), o + m = nb → F (b2 (!hdA w h g' X Y b e (spI i w (X b) - X e) (spI j h (Y b) - Y e) m o)) hc →
    Rn wC G 4 q_Si_sees 179 [some (.ref 43), some (.int (zI e)), some (.int (zI b)), none, none, none, some (.int (zI o))] [] hc (rI F) := by
  have h6 := ok.1
  have hw := ok.2.1
  have hh := ok.2.2.1
  have h1 := ok.2.2.2.2.2.1 (by omega)
  have qe := ok.2.2.2.2.2.2 e he
  have qb := ok.2.2.2.2.2.2 b hb
  have s1 := spI_bd (i := i) (w := w) (x := X b) hi (by omega) (by omega)
  have s2 := spI_bd (i := j) (w := h) (x := Y b) hj (by omega) (by omega)
  have l1 := lohi (g' % 4)
  have l2 := lohi (g' / 4)
  intro m
  induction m with
  | zero =>
    intro o ho K
    have hcn : hc.1 3 4 ≤ zI o := by rw [H.1.1]; exact (zI_le (by omega) (by omega)).mpr (by omega)
    exact w_Si_sees_179 _ _ _ ⟨fun _ => K, fun c => absurd hcn c⟩
  | succ m ih =>
    intro o ho K
    have ho' : o < nb := by omega
    have hcn : ¬ hc.1 3 4 ≤ zI o := by rw [H.1.1, zI_le (by omega) (by omega)]; omega
    have eo : zI (o : Int) + 1 = zI ((o + 1 : Nat) : Int) := zI_add o 1
    have c1 : zI (o : Int) = zI (b : Int) ↔ o = b := by rw [zI_eq (by omega) (by omega)]; omega
    have c2 : zI (o : Int) = zI (e : Int) ↔ o = e := by rw [zI_eq (by omega) (by omega)]; omega
    have qo := ok.2.2.2.2.2.2 o ho'
    rw [hdA] at K
    have go : hdO w h g' X Y b e (spI i w (X b) - X e) (spI j h (Y b) - Y e) o = false → Rn wC G 4 q_Si_sees 179 [some (.ref 43), some (.int (zI e)), some (.int (zI b)), none, none, none, some (.int (zI (o : Int) + 1))] [] hc (rI F) := by
      intro z
      rw [z, Bool.false_or] at K
      rw [eo]
      exact ih (o + 1) (by omega) K
    refine w_Si_sees_179 _ _ _ ⟨fun c => absurd c hcn, fun _ => ⟨fun c => go ?_, fun c => ⟨fun c' => go ?_, fun c' => ?_⟩⟩⟩
    · unfold hdO; simp [c2.mp c]
    · unfold hdO; simp [c1.mp c']
    · have z1 : ¬ o = b := mt c1.mpr c'
      have z2 : ¬ o = e := mt c2.mpr c
      have eO : hdO w h g' X Y b e (spI i w (X b) - X e) (spI j h (Y b) - Y e) o = blO w h X Y e (spI i w (X b) - X e) (spI j h (Y b) - Y e) (loX (loC (g' % 4)) i) (hiX (hiC (g' % 4)) i) (loX (loC (g' / 4)) j) (hiX (hiC (g' / 4)) j) o := by
        rw [blO_hd h1.1 h1.2 ⟨qb.1, qb.2.1⟩ ⟨qe.1, qe.2.1⟩ ⟨qo.1, qo.2.1⟩]
        unfold hdO; simp [z1, z2]
      refine bl_c ok H he ho' S (by omega) (by omega) (by simp only [loX]; omega) (by simp only [hiX]; omega) (by simp only [loX]; omega) (by simp only [hiX]; omega) (by simp only [loX, hiX]; omega) (by simp only [loX, hiX]; omega) ⟨fun d => go ?_, fun d => ?_⟩
      · rw [eO]; exact (b2_0 _).mp d
      · have z : hdO w h g' X Y b e (spI i w (X b) - X e) (spI j h (Y b) - Y e) o = true := by
          rw [eO]
          cases z : blO w h X Y e (spI i w (X b) - X e) (spI j h (Y b) - Y e) (loX (loC (g' % 4)) i) (hiX (hiC (g' % 4)) i) (loX (loC (g' / 4)) j) (hiX (hiC (g' / 4)) j) o with
          | true => rfl
          | false => exact absurd ((b2_0 _).mpr z) d
        rw [z, Bool.true_or] at K
        exact K
end SEC

/-! move, glass, photo, end, light: both sides -/
section MOV
variable {nb w h g t na nx : Nat} {X Y A : Nat → Nat} {R : Nat → Nat → Nat} {hc hm : rx_Hp}
/-- a move that is done -/
def mvI (nb w h : Nat) (X Y : Nat → Nat) (b x y : Int32) : Bool := isB nb b && (insI w h x.toInt y.toInt && !(decide (zI (X b.toInt.toNat) = x) && decide (zI (Y b.toInt.toNat) = y)))
theorem insI_of {x y : Int32} (h' : insI w h x.toInt y.toInt = true) : ∃ u v : Nat, x = zI u ∧ y = zI v ∧ u ≤ w ∧ v ≤ h := by
  unfold insI at h'
  simp only [Bool.and_eq_true, decide_eq_true_eq] at h'
  exact ⟨x.toInt.toNat, y.toInt.toNat, zI_N (by omega), zI_N (by omega), by omega, by omega⟩
theorem a_move_c {G : rx_Gh} {F : Int32 → rx_Hp → Prop} (ok : HOk nb w h g t X Y A) (oa : AOk nb w h na R) (H : HC nb w h g t X Y A hc) (a : AC nb na nx R hc) (b x y : Int32) (K0 : mvI nb w h X Y b x y = false → F (-1) hc) (K1 : mvI nb w h X Y b x y = true → ∀ hp nx', HOk nb w h g t (setN X b.toInt.toNat x.toInt.toNat) (setN Y b.toInt.toNat y.toInt.toNat) A → HC nb w h g t (setN X b.toInt.toNat x.toInt.toNat) (setN Y b.toInt.toNat y.toInt.toNat) A hp → Fr [(37, 1), (37, 2)] [38, 4, 5] hc hp → AC nb (pushN na) nx' (pushR na R (rowN g X Y)) hp → F (zI (pushN na)) hp) : Ev wC G 3 q_GR_move [.ref 0, .int b, .int x, .int y] hc (rI F) := by
  have h6 := ok.1
  have hw := ok.2.1
  have hh := ok.2.2.1
  refine w_GR_move b x y ?_
  rw [has_c h6 H.1.1, ins_c ok H]
  refine ⟨fun c => K0 (by unfold mvI; rw [(b2_0 _).mp c]; rfl), fun c1 => ⟨fun c => K0 (by unfold mvI; rw [(b2_0 _).mp c]; simp), fun c2 => ?_⟩⟩
  have z1 := b2_t c1
  have z2 := b2_t c2
  obtain ⟨b', k1, rfl⟩ := isB_of z1
  obtain ⟨u, v, rfl, rfl, k2, k3⟩ := insI_of z2
  obtain ⟨p1, p2, nx', p3⟩ := rem_c ok H oa.1 a
  have fin : mvI nb w h X Y (zI b') (zI u) (zI v) = true → F ((g_Ac_remember hc).1 37 2) (rx_pa (rx_pa (g_Ac_remember hc) 4 b' (zI u)) 5 b' (zI v)) := by
    intro hm
    have K1 := K1 hm
    rw [zI_back (by omega), zI_back (by omega), zI_back (by omega)] at K1
    rw [p3.2.1]
    have f3 : Fr [] [4, 5] (g_Ac_remember hc) (rx_pa (rx_pa (g_Ac_remember hc) 4 b' (zI u)) 5 b' (zI v)) := (Fr.rf.pa (by decide)).pa (by decide)
    exact K1 _ nx' (ok.mv k2 k3) ((H.fr p2).mv k1) ((p2.mono (fun _ q => q) (fun k q => by
      rcases List.mem_cons.mp q with rfl | q
      · decide
      · cases q)).tr (f3.mono (fun _ q => by cases q) (fun k q => List.mem_cons_of_mem _ q))) (p3.fr f3)
  rw [zI_cN (by omega), (H.2.1 b' k1).1, (H.2.1 b' k1).2.1]
  have em : mvI nb w h X Y (zI b') (zI u) (zI v) = !(decide (zI (X b') = zI (u : Int)) && decide (zI (Y b') = zI (v : Int))) := by
    unfold mvI
    rw [z1, z2, zI_back (by omega), Bool.true_and, Bool.true_and]
  refine ⟨vp_N (by omega) (by omega), fun c => ⟨fun c3 => K0 (by rw [em]; simp [c, c3]), fun c3 => ⟨p1, fin (by rw [em]; simp [c3])⟩⟩, fun c => ⟨p1, fin (by rw [em]; simp [c])⟩⟩
theorem a_move_m {G : rx_Gh} {F : Int32 → rx_Hp → Prop} (ok : HOk nb w h g t X Y A) (oa : AOk nb w h na R) (H : HM nb w h g t X Y A hm) (a : AM nb na R hm) (b x y : Int32) (K0 : mvI nb w h X Y b x y = false → F (-1) hm) (K1 : mvI nb w h X Y b x y = true → ∀ hp, HOk nb w h g t (setN X b.toInt.toNat x.toInt.toNat) (setN Y b.toInt.toNat y.toInt.toNat) A → HM nb w h g t (setN X b.toInt.toNat x.toInt.toNat) (setN Y b.toInt.toNat y.toInt.toNat) A hp → Fr [(0, 30)] [16, 13, 14] hm hp → AM nb (pushN na) (pushR na R (rowN g X Y)) hp → F (zI (pushN na)) hp) : Ev wM G 3 q_M_move [.ref 0, .int b, .int x, .int y] hm (rI F) := by
  have h6 := ok.1
  have hw := ok.2.1
  have hh := ok.2.2.1
  refine w_M_move b x y ?_
  rw [isB_m h6 H.1.1, ins_m ok H]
  refine ⟨fun c => K0 (by unfold mvI; rw [(b2_0 _).mp c]; rfl), fun c1 => ⟨fun c => K0 (by unfold mvI; rw [(b2_0 _).mp c]; simp), fun c2 => ?_⟩⟩
  have z1 := b2_t c1
  have z2 := b2_t c2
  obtain ⟨b', k1, rfl⟩ := isB_of z1
  obtain ⟨u, v, rfl, rfl, k2, k3⟩ := insI_of z2
  rw [zI_cN (by omega), (H.2 b' k1).1, (H.2 b' k1).2.1]
  have fin : mvI nb w h X Y (zI b') (zI u) (zI v) = true → Ev wM G 2 q_M_keepAct [.ref 0] hm (rV fun h1 => F (h1.1 0 30) (rx_pa (rx_pa h1 13 b' (zI u)) 14 b' (zI v))) := by
    intro hmv
    have K1 := K1 hmv
    rw [zI_back (by omega), zI_back (by omega), zI_back (by omega)] at K1
    refine keepAct_m ok H oa.1 a (fun hp p2 p3 => ?_)
    rw [p3.1]
    have f3 : Fr [] [13, 14] hp (rx_pa (rx_pa hp 13 b' (zI u)) 14 b' (zI v)) := (Fr.rf.pa (by decide)).pa (by decide)
    exact K1 _ (ok.mv k2 k3) ((H.fr p2).mv k1) ((p2.mono (fun _ q => q) (fun k q => by
      rcases List.mem_cons.mp q with rfl | q
      · decide
      · cases q)).tr (f3.mono (fun _ q => by cases q) (fun k q => List.mem_cons_of_mem _ q))) (p3.fr f3)
  have em : mvI nb w h X Y (zI b') (zI u) (zI v) = !(decide (zI (X b') = zI (u : Int)) && decide (zI (Y b') = zI (v : Int))) := by
    unfold mvI
    rw [z1, z2, zI_back (by omega), Bool.true_and, Bool.true_and]
  refine ⟨vp_N (by omega) (by omega), fun c => ⟨fun c3 => K0 (by rw [em]; simp [c, c3]), fun c3 => fin (by rw [em]; simp [c3])⟩, fun c => fin (by rw [em]; simp [c])⟩
/-- a change of glass that is done -/
def glsI (nb g : Nat) (s : Int32) : Bool := decide (0 < nb) && ((decide (0 ≤ s.toInt) && decide (s.toInt ≤ 15)) && !decide (s = zI g))
theorem HC.gl (H : HC nb w h g t X Y A hc) (s : Nat) : HC nb w h s t X Y A (rx_pf hc 3 7 (zI s)) := by
  obtain ⟨⟨q1, q2, q3, q4, q5⟩, q6, q7⟩ := H
  exact ⟨⟨by rw [pf_ne _ _ (by decide)]; exact q1, by rw [pf_ne _ _ (by decide)]; exact q2, by rw [pf_ne _ _ (by decide)]; exact q3, by rw [pf_same], by rw [pf_ne _ _ (by decide)]; exact q5⟩, q6, q7⟩
theorem HM.gl (H : HM nb w h g t X Y A hm) (s : Nat) : HM nb w h s t X Y A (rx_pf hm 0 26 (zI s)) := by
  obtain ⟨⟨q1, q2, q3, q4, q5⟩, q6⟩ := H
  exact ⟨⟨by rw [pf_ne _ _ (by decide)]; exact q1, by rw [pf_ne _ _ (by decide)]; exact q2, by rw [pf_ne _ _ (by decide)]; exact q3, by rw [pf_same], by rw [pf_ne _ _ (by decide)]; exact q5⟩, q6⟩
theorem HOk.gl (ok : HOk nb w h g t X Y A) {s : Nat} (hs : s < 16) : HOk nb w h s t X Y A := ⟨ok.1, ok.2.1, ok.2.2.1, hs, ok.2.2.2.2⟩
theorem a_glass_c {G : rx_Gh} {F : Int32 → rx_Hp → Prop} (ok : HOk nb w h g t X Y A) (oa : AOk nb w h na R) (H : HC nb w h g t X Y A hc) (a : AC nb na nx R hc) (s : Int32) (K0 : glsI nb g s = false → F (-1) hc) (K1 : glsI nb g s = true → ∀ hp nx', HOk nb w h s.toInt.toNat t X Y A → HC nb w h s.toInt.toNat t X Y A hp → Fr [(37, 1), (37, 2), (3, 7)] [38] hc hp → AC nb (pushN na) nx' (pushR na R (rowN g X Y)) hp → F (zI (pushN na)) hp) : Ev wC G 3 q_GR_glass [.ref 0, .int s] hc (rI F) := by
  have h6 := ok.1
  have e1 := i_lt s 0 (by omega)
  have e2 := i_lt' s 15 (by omega)
  refine w_GR_glass s ?_
  rw [stands_c h6 H.1.1, H.1.2.2.2.1]
  refine ⟨fun c => K0 (by unfold glsI; rw [(b2_0 _).mp c]; rfl), fun c1 => ⟨fun c => K0 ?_, fun c2 => ⟨fun c => K0 ?_, fun c3 => ⟨fun c => K0 (by unfold glsI; simp [c]), fun c4 => ?_⟩⟩⟩⟩
  · have := e1.mp c
    unfold glsI; simp; omega
  · have := e2.mp c
    unfold glsI; simp; omega
  · have z1 := b2_t c1
    have z2 := mtn e1 c2
    have z3 := mtn e2 c3
    obtain ⟨p1, p2, nx', p3⟩ := rem_c ok H oa.1 a
    have K1 := K1 (by unfold glsI; rw [z1]; simp [c4]; omega)
    refine ⟨p1, ?_⟩
    rw [p3.2.1]
    have hz := zI_N (x := s) (by omega)
    rw [hz]
    rw [hz, zI_back (by omega)] at K1
    have f3 : Fr [(3, 7)] [] (g_Ac_remember hc) (rx_pf (g_Ac_remember hc) 3 7 (zI ((s.toInt.toNat : Nat) : Int))) := Fr.rf.pf (by decide)
    exact K1 _ nx' (ok.gl (by omega)) ((H.fr p2).gl _) ((p2.mono (by decide) (by decide)).tr (f3.mono (by decide) (by decide))) (p3.fr f3)
theorem a_glass_m {G : rx_Gh} {F : Int32 → rx_Hp → Prop} (ok : HOk nb w h g t X Y A) (oa : AOk nb w h na R) (H : HM nb w h g t X Y A hm) (a : AM nb na R hm) (s : Int32) (K0 : glsI nb g s = false → F (-1) hm) (K1 : glsI nb g s = true → ∀ hp, HOk nb w h s.toInt.toNat t X Y A → HM nb w h s.toInt.toNat t X Y A hp → Fr [(0, 30), (0, 26)] [16] hm hp → AM nb (pushN na) (pushR na R (rowN g X Y)) hp → F (zI (pushN na)) hp) : Ev wM G 3 q_M_glass [.ref 0, .int s] hm (rI F) := by
  have h6 := ok.1
  have e1 : f_M_in s 0 15 = b2 (decide (0 ≤ s.toInt) && decide (s.toInt ≤ 15)) := in_m s (lo := 0) (hi := 15) (by omega) (by omega)
  have c0 : hm.1 0 23 = 0 ↔ nb = 0 := by rw [H.1.1]; exact z0_iff (by omega)
  refine w_M_glass s ?_
  rw [e1, H.1.2.2.2.1]
  refine ⟨fun c => K0 (by have := c0.mp c; unfold glsI; simp [this]), fun c1 => ⟨fun c => K0 (by unfold glsI; rw [(b2_0 _).mp c]; simp), fun c2 => ⟨fun c => K0 (by unfold glsI; simp [c]), fun c4 => ?_⟩⟩⟩
  have z1 := mtn c0 c1
  have z2 := b2_t c2
  have K1 := K1 (by unfold glsI; rw [z2]; simp [c4]; omega)
  simp only [Bool.and_eq_true, decide_eq_true_eq] at z2
  refine keepAct_m ok H oa.1 a (fun hp p2 p3 => ?_)
  rw [p3.1]
  have hz := zI_N (x := s) (by omega)
  rw [hz]
  rw [hz, zI_back (by omega)] at K1
  have f3 : Fr [(0, 26)] [] hp (rx_pf hp 0 26 (zI ((s.toInt.toNat : Nat) : Int))) := Fr.rf.pf (by decide)
  exact K1 _ (ok.gl (by omega)) ((H.fr p2).gl _) ((p2.mono (by decide) (by decide)).tr (f3.mono (by decide) (by decide))) (p3.fr f3)
end MOV

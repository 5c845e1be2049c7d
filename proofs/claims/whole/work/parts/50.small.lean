/-! end, light, photo: both sides -/
def POk (nb np : Nat) (pe pf : Nat → Nat) : Prop := np ≤ 12 ∧ ∀ k, k < np → pe k < nb ∧ pf k ≤ 99999
def PC (np : Nat) (pe pf : Nat → Nat) (hc : rx_Hp) : Prop := hc.1 47 3 = zI np ∧ ∀ k, k < np → hc.2.1 48 k = zI (pe k) ∧ hc.2.1 49 k = zI (pf k)
def PM (np : Nat) (pe pf : Nat → Nat) (hm : rx_Hp) : Prop := hm.1 0 42 = zI np ∧ ∀ k, k < np → hm.2.1 21 k = zI (pe k) ∧ hm.2.1 22 k = zI (pf k)
def LOk (nl : Nat) (hd : Int) : Prop := nl ≤ 4 ∧ -1 ≤ hd ∧ hd < nl
def LC (nl : Nat) (hd : Int) (hc : rx_Hp) : Prop := hc.1 0 14 = zI nl ∧ hc.1 0 15 = zI hd
def LM (nl : Nat) (hd : Int) (hm : rx_Hp) : Prop := hm.1 0 13 = zI nl ∧ hm.1 0 28 = zI hd
theorem PC.fr {np : Nat} {pe pf : Nat → Nat} {a b : rx_Hp} {fs : List (Nat × Nat)} {as : List Nat} (h : PC np pe pf a) (f : Fr fs as a b) (h1 : (47, 3) ∉ fs := by decide) (h2 : 48 ∉ as ∧ 49 ∉ as := by decide) : PC np pe pf b :=
  ⟨(f.1 47 3 h1).trans h.1, fun k hk => by rw [f.2.1 48 h2.1, f.2.1 49 h2.2]; exact h.2 k hk⟩
theorem PM.fr {np : Nat} {pe pf : Nat → Nat} {a b : rx_Hp} {fs : List (Nat × Nat)} {as : List Nat} (h : PM np pe pf a) (f : Fr fs as a b) (h1 : (0, 42) ∉ fs := by decide) (h2 : 21 ∉ as ∧ 22 ∉ as := by decide) : PM np pe pf b :=
  ⟨(f.1 0 42 h1).trans h.1, fun k hk => by rw [f.2.1 21 h2.1, f.2.1 22 h2.2]; exact h.2 k hk⟩
theorem LC.fr {nl : Nat} {hd : Int} {a b : rx_Hp} {fs : List (Nat × Nat)} {as : List Nat} (h : LC nl hd a) (f : Fr fs as a b) (h1 : (0, 14) ∉ fs ∧ (0, 15) ∉ fs := by decide) : LC nl hd b := ⟨(f.1 0 14 h1.1).trans h.1, (f.1 0 15 h1.2).trans h.2⟩
theorem LM.fr {nl : Nat} {hd : Int} {a b : rx_Hp} {fs : List (Nat × Nat)} {as : List Nat} (h : LM nl hd a) (f : Fr fs as a b) (h1 : (0, 13) ∉ fs ∧ (0, 28) ∉ fs := by decide) : LM nl hd b := ⟨(f.1 0 13 h1.1).trans h.1, (f.1 0 28 h1.2).trans h.2⟩
def endI (n : Nat) (a : Int32) : Bool := decide (0 ≤ a.toInt) && decide (a.toInt ≤ n)
section SML
variable {n : Nat} {bt : Nat → Nat} {hc hm : rx_Hp}
theorem a_end_c {G : rx_Gh} {F : Int32 → rx_Hp → Prop} (ok : TOk n bt) (T : TC n bt hc) (a : Int32) (K0 : endI n a = false → F 0 hc) (K1 : endI n a = true → ∀ hp, TOk a.toInt.toNat bt → TC a.toInt.toNat bt hp → Fr [(1, 1)] [] hc hp → F 1 hp) : Ev wC G 1 q_GR_end [.ref 0, .int a] hc (rI F) := by
  obtain ⟨o1, o2⟩ := ok
  have e1 := i_lt a 0 (by omega)
  have e2 := i_le a n (by omega)
  refine w_GR_end a ?_
  rw [T.1]
  refine ⟨fun c => K0 (by have := e1.mp c; unfold endI; simp; omega), fun c1 => ⟨fun c2 => ?_, fun c => K0 (by have := mtn e2 c; unfold endI; simp; omega)⟩⟩
  have z1 := mtn e1 c1
  have z2 := e2.mp c2
  refine K1 (by unfold endI; simp; omega) _ ⟨by omega, fun i hi => o2 i (by omega)⟩ ⟨?_, fun i hi => T.2 i (by omega)⟩ (Fr.rf.pf (by decide))
  rw [pf_same]; exact zI_N (by omega)
theorem a_end_m {G : rx_Gh} {F : Int32 → rx_Hp → Prop} (ok : TOk n bt) (T : TM n bt hm) (a : Int32) (K0 : endI n a = false → F 0 hm) (K1 : endI n a = true → ∀ hp, TM a.toInt.toNat bt hp → Fr [(0, 2)] [] hm hp → F 1 hp) : Ev wM G 1 q_M_end [.ref 0, .int a] hm (rI F) := by
  obtain ⟨o1, o2⟩ := ok
  have e1 := i_lt a 0 (by omega)
  have e2 := i_le a n (by omega)
  refine w_M_end a ?_
  rw [T.1]
  refine ⟨fun c => K0 (by have := e1.mp c; unfold endI; simp; omega), fun c1 => ⟨fun c2 => ?_, fun c => K0 (by have := mtn e2 c; unfold endI; simp; omega)⟩⟩
  have z1 := mtn e1 c1
  have z2 := e2.mp c2
  refine K1 (by unfold endI; simp; omega) _ ⟨?_, fun i hi => T.2 i (by omega)⟩ (Fr.rf.pf (by decide))
  rw [pf_same]; exact zI_N (by omega)
variable {nl : Nat} {hd : Int}
def ligI (nl : Nat) (a : Int32) : Bool := decide (-1 ≤ a.toInt) && decide (a.toInt ≤ (nl : Int) - 1)
theorem a_light_c {G : rx_Gh} {F : Int32 → rx_Hp → Prop} (ok : LOk nl hd) (T : LC nl hd hc) (a : Int32) (K0 : ligI nl a = false → F 0 hc) (K1 : ligI nl a = true → ∀ hp, LOk nl a.toInt → LC nl a.toInt hp → Fr [(0, 15)] [] hc hp → F 1 hp) : Ev wC G 1 q_GR_light [.ref 0, .int a] hc (rI F) := by
  obtain ⟨o1, o2⟩ := ok
  have e1 := i_lt a (-1) (by omega)
  have e2 := i_lt a nl (by omega)
  rw [show zI (-1) = (-1 : Int32) from by decide] at e1
  refine w_GR_light a ?_
  rw [T.1]
  refine ⟨fun c => K0 (by have := e1.mp c; unfold ligI; simp; omega), fun c1 => ⟨fun c2 => ?_, fun c => K0 (by have := mtn e2 c; unfold ligI; simp; omega)⟩⟩
  have z1 := mtn e1 c1
  have z2 := e2.mp c2
  refine K1 (by unfold ligI; simp; omega) _ ⟨o1, by omega, by omega⟩ ⟨?_, ?_⟩ (Fr.rf.pf (by decide))
  · rw [pf_ne _ _ (by decide)]; exact T.1
  · rw [pf_same, zI_self]
theorem a_light_m {G : rx_Gh} {F : Int32 → rx_Hp → Prop} (ok : LOk nl hd) (T : LM nl hd hm) (a : Int32) (K0 : ligI nl a = false → F 0 hm) (K1 : ligI nl a = true → ∀ hp, LM nl a.toInt hp → Fr [(0, 28)] [] hm hp → F 1 hp) : Ev wM G 2 q_M_light [.ref 0, .int a] hm (rI F) := by
  obtain ⟨o1, o2⟩ := ok
  refine w_M_light a ?_
  rw [T.1, show (-1 : Int32) = zI (-1) from by decide, show (1 : Int32) = zI 1 from by decide, zI_sub, in_m a (by omega) (by omega)]
  refine ⟨fun c => K0 ((b2_0 _).mp c), fun c1 => ?_⟩
  refine K1 (b2_t c1) _ ⟨?_, ?_⟩ (Fr.rf.pf (by decide))
  · rw [pf_ne _ _ (by decide)]; exact T.1
  · rw [pf_same, zI_self]
variable {nb w h g t np : Nat} {X Y A pe pf : Nat → Nat}
def phoI (nb np : Nat) (e f : Int32) : Bool := isB nb e && ((decide (0 ≤ f.toInt) && decide (f.toInt ≤ 99999)) && decide (np < 12))
theorem P_push {arr : Nat → Nat} {k v i : Nat} (hi : i ≤ k) : setN arr k v i = if i = k then v else arr i := rfl
theorem a_photo_c {G : rx_Gh} {F : Int32 → rx_Hp → Prop} (ok : HOk nb w h g t X Y A) (op : POk nb np pe pf) (H : HC nb w h g t X Y A hc) (P : PC np pe pf hc) (e f : Int32) (K0 : phoI nb np e f = false → F (-1) hc) (K1 : phoI nb np e f = true → ∀ hp, POk nb (np + 1) (setN pe np e.toInt.toNat) (setN pf np f.toInt.toNat) → PC (np + 1) (setN pe np e.toInt.toNat) (setN pf np f.toInt.toNat) hp → Fr [(47, 3)] [48, 49] hc hp → F (zI ((np + 1 : Nat) : Int)) hp) : Ev wC G 2 q_GR_photo [.ref 0, .int e, .int f] hc (rI F) := by
  have h6 := ok.1
  obtain ⟨o1, o2⟩ := op
  have e1 := i_lt f 0 (by omega)
  have e2 := i_lt' f 99999 (by omega)
  have e3 : hc.1 47 3 < 12 ↔ np < 12 := by rw [P.1, show (12 : Int32) = zI 12 from by decide, zI_lt (by omega) (by omega)]; omega
  refine w_GR_photo e f ?_
  rw [has_c h6 H.1.1]
  refine ⟨fun c => K0 (by unfold phoI; rw [(b2_0 _).mp c]; rfl), fun c1 => ⟨fun c => K0 (by have := e1.mp c; unfold phoI; simp; omega), fun c2 => ⟨fun c => K0 (by have := e2.mp c; unfold phoI; simp; omega), fun c3 => ⟨fun c4 => ?_, fun c => K0 (by have := mtn e3 c; unfold phoI; simp; omega)⟩⟩⟩⟩
  have z1 := b2_t c1
  have z2 := mtn e1 c2
  have z3 := mtn e2 c3
  have z4 := e3.mp c4
  have K1 := K1 (by unfold phoI; rw [z1]; simp; omega)
  obtain ⟨e', k1, rfl⟩ := isB_of z1
  have hz := zI_N (x := f) (by omega)
  have n12 : ¬ 12 ≤ hc.1 47 3 := by rw [P.1, show (12 : Int32) = zI 12 from by decide, zI_le (by omega) (by omega)]; omega
  unfold p_Ph_add g_Ph_add
  rw [if_neg n12, pf_same, P.1, zI_cN (by omega), show (1 : Int32) = zI 1 from by decide, zI_add]
  rw [zI_back (by omega)] at K1
  refine ⟨fun _ => vp_N (by omega) (by omega), ?_⟩
  refine K1 _ ⟨by omega, fun k hk => ?_⟩ ⟨?_, fun k hk => ?_⟩ (((Fr.rf.pa (by decide)).pa (by decide)).pf (by decide))
  · unfold setN
    by_cases q : k = np
    · rw [if_pos q, if_pos q]; omega
    · rw [if_neg q, if_neg q]; exact o2 k (by omega)
  · rw [pf_same]; rfl
  · unfold setN
    rw [pf_a]
    by_cases q : k = np
    · subst q
      rw [if_pos rfl, if_pos rfl, pa_ne _ _ (by simp), pa_same, pa_same, ← hz]
      exact ⟨rfl, rfl⟩
    · rw [if_neg q, if_neg q, pa_ne _ _ (by simp), pa_ne _ _ (by simp [q]), pa_ne _ _ (by simp [q]), pa_ne _ _ (by simp)]
      exact P.2 k (by omega)
end SML

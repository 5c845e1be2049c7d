/-! the light of an image, both sides -/
def ltL (t : Nat) (i j far : Int) : Nat → Int := fun l => [(glI i j : Int), far, ((glI i j % 2 : Nat) : Int), i, j, brI t (glI i j)].getD l 0
def ltV (t : Nat) (hd : Int) (Lt : Nat → List Cl) (i j far : Int) : Int := if hd < 0 then brI t (glI i j) else wrt (ltL t i j far) (Lt hd.toNat)
theorem ltL_ok {t : Nat} (ht : t ≤ 99) {i j far : Int} (hi : -10 ≤ i ∧ i ≤ 10) (hj : -10 ≤ j ∧ j ≤ 10) (hf : 0 ≤ far ∧ far ≤ 115200) : LOkL (ltL t i j far) := by
  intro l
  have hg := glI_le hi hj
  have hb := brI_bd t ht (glI i j)
  match l with
  | 0 => show -1000000 ≤ (glI i j : Int) ∧ (glI i j : Int) ≤ 1000000; omega
  | 1 => show -1000000 ≤ far ∧ far ≤ 1000000; omega
  | 2 => show -1000000 ≤ ((glI i j % 2 : Nat) : Int) ∧ ((glI i j % 2 : Nat) : Int) ≤ 1000000; omega
  | 3 => show -1000000 ≤ i ∧ i ≤ 1000000; omega
  | 4 => show -1000000 ≤ j ∧ j ≤ 1000000; omega
  | 5 => show -1000000 ≤ brI t (glI i j) ∧ brI t (glI i j) ≤ 1000000; omega
  | k + 6 => show -1000000 ≤ (0 : Int) ∧ (0 : Int) ≤ 1000000; omega
theorem odC : ∀ n : Fin 21, zI (n : Nat) &&& 1 = zI ((n.val % 2 : Nat) : Int) := by decide +kernel
theorem odM : ∀ n : Fin 21, zI (n : Nat) - zI (n : Nat) / 2 * 2 = zI ((n.val % 2 : Nat) : Int) := by decide +kernel
section LGT
variable {G : rx_Gh} {F : Int32 → rx_Hp → Prop} {nb w h g t nl : Nat} {X Y A : Nat → Nat} {hd : Int} {Lt : Nat → List Cl} {hc hm : rx_Hp}
theorem isL_n {n : Nat} (h : n < 4) : isL (20 + 3 * n) ∧ ∀ lr, wC_r19 lr n = some (20 + 3 * n) := by
  have : n = 0 ∨ n = 1 ∨ n = 2 ∨ n = 3 := by omega
  rcases this with rfl | rfl | rfl | rfl <;> exact ⟨by unfold isL; decide, fun _ => rfl⟩
theorem wof_c (ok : HOk nb w h g t X Y A) (h0 : 0 < nb) (ol : LOk nl hd) (og : LGOk nl Lt) (H : HC nb w h g t X Y A hc) (Lc : LC nl hd hc) (Lg : LGC nl Lt hc) {i j far : Int} (hi : -10 ≤ i ∧ i ≤ 10) (hj : -10 ≤ j ∧ j ≤ 10) (hf : 0 ≤ far ∧ far ≤ 115200) (K : ∀ h', Fr [] [35, 36] hc h' → F (zI (ltV t hd Lt i j far)) h') : Ev wC G 5 q_GR_worthOf [.ref 0, .int (zI i), .int (zI j), .int (zI far)] hc (rI F) := by
  have hg := glI_le hi hj
  obtain ⟨o1, o2, o3⟩ := ol
  obtain ⟨p1, p2⟩ := bright_c ok H h0 (n := glI i j) hg
  refine w_GR_worthOf _ _ _ ?_
  rw [gl_c hi hj, p2, Lc.2]
  refine ⟨p1, ?_⟩
  have e0 := zI_lt (a := hd) (b := 0) (by omega) (by omega)
  rw [show zI 0 = (0 : Int32) from by decide] at e0
  by_cases c : hd < 0
  · refine ⟨fun _ => ?_, fun z => absurd (e0.mpr c) z⟩
    have := K hc Fr.rf
    unfold ltV at this
    rw [if_pos c] at this; exact this
  · obtain ⟨k, hk⟩ : ∃ k : Nat, hd = k := ⟨hd.toNat, by omega⟩
    subst hk
    have k4 : k < nl := by omega
    have n5 : ¬ 5 ≤ zI (k : Int) := by rw [show (5 : Int32) = zI 5 from by decide, zI_le (by omega) (by omega)]; omega
    obtain ⟨i1, i2⟩ := isL_n (n := k) (by omega)
    have o34 := isL_le i1
    refine ⟨fun z => absurd (e0.mp z) c, fun _ => ⟨fun z => absurd z n5, fun _ => ⟨20 + 3 * k, vp_N (by omega) (by omega), ?_, i1, ?_⟩⟩⟩
    · rw [zI_cN (by omega)]; exact i2 _
    · have f1 : Fr [] [35] hc (rx_pa (rx_pa (rx_pa (rx_pa (rx_pa (rx_pa hc 35 0 (zI (glI i j : Nat))) 35 1 (zI far)) 35 2 (zI (glI i j : Nat) &&& 1)) 35 3 (zI i)) 35 4 (zI j)) 35 5 (zI (brI t (glI i j)))) := (((((Fr.rf.pa (by decide)).pa (by decide)).pa (by decide)).pa (by decide)).pa (by decide)).pa (by decide)
      have hl := Lg k k4
      have hl' : LtC (20 + 3 * k) (Lt k) (rx_pa (rx_pa (rx_pa (rx_pa (rx_pa (rx_pa hc 35 0 (zI (glI i j : Nat))) 35 1 (zI far)) 35 2 (zI (glI i j : Nat) &&& 1)) 35 3 (zI i)) 35 4 (zI j)) 35 5 (zI (brI t (glI i j)))) := by
        refine ⟨hl.1, fun q s hs => ?_⟩
        rw [f1.2.1 (20 + 3 * k + 1) (by simp; omega), f1.2.1 (20 + 3 * k + 2) (by simp; omega)]; exact hl.2 q s hs
      refine wo_c i1 (og k k4) (ltL_ok (t := t) ok.2.2.2.2.1 hi hj hf) hl' (fun l hl6 => ?_) (fun h' f' => ?_)
      · have : l = 0 ∨ l = 1 ∨ l = 2 ∨ l = 3 ∨ l = 4 ∨ l = 5 := by omega
        rcases this with rfl | rfl | rfl | rfl | rfl | rfl
        · rw [pa_ne _ _ (by decide), pa_ne _ _ (by decide), pa_ne _ _ (by decide), pa_ne _ _ (by decide), pa_ne _ _ (by decide), pa_same]; rfl
        · rw [pa_ne _ _ (by decide), pa_ne _ _ (by decide), pa_ne _ _ (by decide), pa_ne _ _ (by decide), pa_same]; rfl
        · rw [pa_ne _ _ (by decide), pa_ne _ _ (by decide), pa_ne _ _ (by decide), pa_same]; exact odC ⟨glI i j, by omega⟩
        · rw [pa_ne _ _ (by decide), pa_ne _ _ (by decide), pa_same]; rfl
        · rw [pa_ne _ _ (by decide), pa_same]; rfl
        · rw [pa_same]; rfl
      · have := K h' ((f1.mono (fun _ z => z) (fun x hx => by simp at hx; simp [hx])).tr (f'.mono (fun _ z => z) (fun x hx => by simp at hx; simp [hx])))
        unfold ltV at this
        rw [if_neg c, show ((k : Int)).toNat = k from by omega] at this
        exact this
theorem lat_m (ok : HOk nb w h g t X Y A) (ol : LOk nl hd) (og : LGOk nl Lt) (H : HM nb w h g t X Y A hm) (Lc : LM nl hd hm) (Lg : LGM nl Lt hm) {b e : Nat} (hb : b < nb) (he : e < nb) {i j : Int} (hi : -10 ≤ i ∧ i ≤ 10) (hj : -10 ≤ j ∧ j ≤ 10) (K : ∀ h', Fr [] [9, 10] hm h' → F (zI (ltV t hd Lt i j (farI w h X Y e b i j))) h') : Ev wM G 6 q_M_lightAt [.ref 0, .int (zI b), .int (zI i), .int (zI j), .int (zI e)] hm (rI F) := by
  have hg := glI_le hi hj
  have ht := ok.2.2.2.2.1
  obtain ⟨o1, o2, o3⟩ := ol
  have br : ∀ hx : rx_Hp, HM nb w h g t X Y A hx → p_M_bright (zI (glI i j : Nat)) hx ∧ f_M_bright (zI (glI i j : Nat)) hx = zI (brI t (glI i j)) := by
    intro hx Hx
    unfold p_M_bright f_M_bright
    rw [Hx.1.2.2.2.2, zI_back (by omega), zI_back (by omega), zI_toInt (by omega) (by omega), zI_toInt (by omega) (by omega)]
    exact ⟨⟨by omega, by omega⟩, rfl⟩
  refine w_M_lightAt _ _ _ _ ?_
  rw [gl_m hi hj, Lc.2]
  have e0 := zI_eq (a := hd) (b := -1) (by omega) (by omega)
  rw [show zI (-1) = (-1 : Int32) from by decide] at e0
  by_cases c : hd < 0
  · refine ⟨fun _ => ⟨(br hm H).1, ?_⟩, fun z => absurd (e0.mpr (by omega)) z⟩
    have := K hm Fr.rf
    unfold ltV at this
    rw [if_pos c] at this
    rw [(br hm H).2]; exact this
  · obtain ⟨k, hk⟩ : ∃ k : Nat, hd = k := ⟨hd.toNat, by omega⟩
    subst hk
    have k4 : k < nl := by omega
    have fa : Fr [] [9] hm (rx_pa hm 9 0 (zI (glI i j : Nat))) := Fr.rf.pa (by decide)
    obtain ⟨q1, q2⟩ := far_m ok (H.fr fa) he hb hi hj
    have fb : Fr [] [9] hm (rx_pa (rx_pa (rx_pa (rx_pa (rx_pa hm 9 0 (zI (glI i j : Nat))) 9 1 (zI (farI w h X Y e b i j))) 9 2 (zI (glI i j : Nat) - zI (glI i j : Nat) / 2 * 2)) 9 3 (zI i)) 9 4 (zI j)) := ((((Fr.rf.pa (by decide)).pa (by decide)).pa (by decide)).pa (by decide)).pa (by decide)
    refine ⟨fun z => absurd (e0.mp z) (by omega), fun _ => ?_⟩
    rw [q2, (br _ (H.fr fb)).2]
    refine ⟨q1, (br _ (H.fr fb)).1, ?_⟩
    have f1 : Fr [] [9] hm (rx_pa (rx_pa (rx_pa (rx_pa (rx_pa (rx_pa hm 9 0 (zI (glI i j : Nat))) 9 1 (zI (farI w h X Y e b i j))) 9 2 (zI (glI i j : Nat) - zI (glI i j : Nat) / 2 * 2)) 9 3 (zI i)) 9 4 (zI j)) 9 5 (zI (brI t (glI i j)))) := fb.pa (by decide)
    have hf := nrF_bd ok hb he hi hj
    refine wo_m (r := k) (by omega) (og k k4) (ltL_ok (t := t) ht hi hj hf) (LGM.fr Lg f1 (by decide) k k4) (fun l hl6 => ?_) (fun h' f' => ?_)
    · have : l = 0 ∨ l = 1 ∨ l = 2 ∨ l = 3 ∨ l = 4 ∨ l = 5 := by omega
      rcases this with rfl | rfl | rfl | rfl | rfl | rfl
      · rw [pa_ne _ _ (by decide), pa_ne _ _ (by decide), pa_ne _ _ (by decide), pa_ne _ _ (by decide), pa_ne _ _ (by decide), pa_same]; rfl
      · rw [pa_ne _ _ (by decide), pa_ne _ _ (by decide), pa_ne _ _ (by decide), pa_ne _ _ (by decide), pa_same]; rfl
      · rw [pa_ne _ _ (by decide), pa_ne _ _ (by decide), pa_ne _ _ (by decide), pa_same]; exact odM ⟨glI i j, by omega⟩
      · rw [pa_ne _ _ (by decide), pa_ne _ _ (by decide), pa_same]; rfl
      · rw [pa_ne _ _ (by decide), pa_same]; rfl
      · rw [pa_same]; rfl
    · have := K h' ((f1.mono (fun _ z => z) (fun x hx => by simp at hx; simp [hx])).tr (f'.mono (fun _ z => z) (fun x hx => by simp at hx; simp [hx])))
      unfold ltV at this
      rw [if_neg c, show ((k : Int)).toNat = k from by omega] at this
      exact this
end LGT
/-! lightOf -/
section LGO
variable {S : Gs}
def A_lightOf (S : Gs) (a i j e : Int32) : Int32 := if isIm S.nb a i j && isB S.nb e then zI (ltV S.t S.hd S.Lt i.toInt j.toInt (farI S.w S.h S.X S.Y e.toInt.toNat a.toInt.toNat i.toInt j.toInt)) else -100000000
theorem t_lightOf (ok : ROk S) (a i j e : Int32) : Pd 6 7 q_GR_lightOf q_M_lightOf [.int a, .int i, .int j, .int e] S := by
  have h6 := ok.h.1
  refine ⟨A_lightOf S a i j e, S, ok, fun G hc r => ?_, fun G hm r => ?_⟩
  · refine w_GR_lightOf a i j e ?_
    rw [hasI_c h6 r.h.1.1, has_c h6 r.h.1.1]
    unfold A_lightOf
    refine ⟨fun c => ?_, fun c => ⟨fun c2 => ?_, fun c2 => ?_⟩⟩
    · rw [(b2_0 _).mp c]; exact ⟨rfl, r⟩
    · rw [(b2_0 _).mp c2, Bool.and_false]; exact ⟨rfl, r⟩
    · have q1 := b2_t c
      have q2 := b2_t c2
      rw [q1, q2]
      obtain ⟨b, u, v, k1, rfl, rfl, rfl, k2, k3⟩ := isIm_of q1
      obtain ⟨e', k4, rfl⟩ := isB_of q2
      obtain ⟨p1, p2⟩ := far_c ok.h r.h k4 k1 k2 k3
      refine ⟨p1, ?_⟩
      rw [p2, zI_back (by omega), zI_back (by omega), zI_toInt (by omega) (by omega), zI_toInt (by omega) (by omega)]
      exact wof_c ok.h (by omega) ok.l ok.g r.h r.l r.g k2 k3 (nrF_bd ok.h k1 k4 k2 k3) (fun h' f => ⟨rfl, r.fr ok f⟩)
  · refine w_M_lightOf a i j e ?_
    rw [isI_m h6 r.h.1.1, isB_m h6 r.h.1.1]
    unfold A_lightOf
    refine ⟨fun c => ?_, fun c => ⟨fun c2 => ?_, fun c2 => ?_⟩⟩
    · rw [(b2_0 _).mp c]; exact ⟨rfl, r⟩
    · rw [(b2_0 _).mp c2, Bool.and_false]; exact ⟨rfl, r⟩
    · have q1 := b2_t c
      have q2 := b2_t c2
      rw [q1, q2]
      obtain ⟨b, u, v, k1, rfl, rfl, rfl, k2, k3⟩ := isIm_of q1
      obtain ⟨e', k4, rfl⟩ := isB_of q2
      rw [zI_back (by omega), zI_back (by omega), zI_toInt (by omega) (by omega), zI_toInt (by omega) (by omega)]
      exact lat_m ok.h ok.l ok.g r.h r.l r.g k1 k4 k2 k3 (fun h' f => ⟨rfl, r.fr f⟩)
end LGO

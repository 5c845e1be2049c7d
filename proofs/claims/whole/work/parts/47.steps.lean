/-! steps: the inner loops, all bodies once -/
section STP
variable {nb w h g t na nx : Nat} {A : Nat → Nat} {R : Nat → Nat → Nat}
theorem steps_in_c {G : rx_Gh} {F : Int32 → rx_Hp → Prop} (x1 x6 : Int32) {hc0 : rx_Hp} {fs : List (Nat × Nat)} {as : List Nat} (h4 : 4 ∈ as) (h5 : 5 ∈ as) : ∀ (m b : Nat) (X Y : Nat → Nat) (x : Int64) (hp : rx_Hp), b + m = nb → HOk nb w h g t X Y A → HC nb w h g t X Y A hp → Fr fs as hc0 hp → AC nb na nx R hp →
    (∀ hp', HOk nb w h g t (wF nxt drw w h m b X Y x).1 (wF nxt drw w h m b X Y x).2.1 A → HC nb w h g t (wF nxt drw w h m b X Y x).1 (wF nxt drw w h m b X Y x).2.1 A hp' → Fr fs as hc0 hp' → AC nb na nx R hp' → Rn wC G 3 q_GR_steps 29 [some (.ref 0), some (.int x1), none, none, some (.long (wF nxt drw w h m b X Y x).2.2), none, some (.int (x6 + 1)), none] [] hp' (rI F)) →
    Rn wC G 3 q_GR_steps 49 [some (.ref 0), some (.int x1), none, none, some (.long x), none, some (.int x6), some (.int (zI b))] [] hp (rI F) := by
  intro m
  induction m with
  | zero =>
    intro b X Y x hp hb ok H f a K
    have h6 := ok.1
    have hcn : hp.1 3 4 ≤ zI b := by rw [H.1.1]; exact (zI_le (by omega) (by omega)).mpr (by omega)
    refine w_GR_steps_49 _ _ _ _ ?_
    rw [nxt_def, drw_def]
    rw [wF_0] at K
    exact ⟨fun _ => K hp ok H f a, fun c => absurd hcn c⟩
  | succ m ih =>
    intro b X Y x hp hb ok H f a K
    have h6 := ok.1
    have hcn : ¬ hp.1 3 4 ≤ zI b := by rw [H.1.1, zI_le (by omega) (by omega)]; omega
    rw [wF_s] at K
    refine w_GR_steps_49 _ _ _ _ ?_
    rw [nxt_def, drw_def]
    revert K ih
    generalize nxt = u
    generalize drw = v
    intro ih K
    generalize v (u x) = d at K ⊢
    generalize u x = x' at K ⊢
    obtain ⟨p1, p2, p3⟩ := wander_c ok H (b := b) (by omega) d
    refine ⟨fun c => absurd c hcn, fun _ => ⟨p1, ?_⟩⟩
    rw [show zI (b : Int) + 1 = zI ((b + 1 : Nat) : Int) from zI_add b 1]
    have f2 : Fr fs as hc0 (g_Ha_wander (zI b) d hp) := f.tr (p3.mono (fun _ q => by cases q) (fun k q => by
      rcases List.mem_cons.mp q with rfl | q
      · exact h4
      · rcases List.mem_cons.mp q with rfl | q
        · exact h5
        · cases q))
    exact ih (b + 1) _ _ x' _ (by omega) (wn_ok ok b d) p2 f2 (a.fr p3) K
theorem wander_m {X Y : Nat → Nat} {hp : rx_Hp} (ok : HOk nb w h g t X Y A) (H : HM nb w h g t X Y A hp) {b : Nat} (hb : b < nb) (d : Int32) {P : rx_Hp → Prop} (K : ∀ hp', HM nb w h g t (wnX w h X Y b d) (wnY w h X Y b d) A hp' → Fr [] [13, 14] hp hp' → P hp') :
    (f_M_isInside (hp.2.1 13 (zI (b : Int)).toNatClampNeg + (if d = 1 then 1 else if d = 3 then -1 else 0)) (hp.2.1 14 (zI (b : Int)).toNatClampNeg + (if d = 2 then 1 else if d = 4 then -1 else 0)) hp = 0 → P hp) ∧ (¬ f_M_isInside (hp.2.1 13 (zI (b : Int)).toNatClampNeg + (if d = 1 then 1 else if d = 3 then -1 else 0)) (hp.2.1 14 (zI (b : Int)).toNatClampNeg + (if d = 2 then 1 else if d = 4 then -1 else 0)) hp = 0 → P (rx_pa (rx_pa hp 13 (zI (b : Int)).toNatClampNeg (hp.2.1 13 (zI (b : Int)).toNatClampNeg + (if d = 1 then 1 else if d = 3 then -1 else 0))) 14 (zI (b : Int)).toNatClampNeg (hp.2.1 14 (zI (b : Int)).toNatClampNeg + (if d = 2 then 1 else if d = 4 then -1 else 0)))) := by
  have h6 := ok.1
  have q := ok.2.2.2.2.2.2 b hb
  have hw := ok.2.1
  have hh := ok.2.2.1
  have d1 := dX_bd d
  have d2 := dY_bd d
  rw [dX_z, dY_z, zI_cN (by omega), (H.2 b hb).1, (H.2 b hb).2.1, zI_add, zI_add, ins_m ok H, zI_toInt (by omega) (by omega), zI_toInt (by omega) (by omega)]
  unfold wnX wnY at K
  cases hi : insI w h (X b + dXi d) (Y b + dYi d) with
  | false =>
    rw [hi] at K
    exact ⟨fun _ => K hp H Fr.rf, fun z => absurd rfl z⟩
  | true =>
    rw [hi] at K
    unfold insI at hi
    simp only [Bool.and_eq_true, decide_eq_true_eq] at hi
    rw [show (X b : Int) + dXi d = (((X b : Int) + dXi d).toNat : Nat) by omega, show (Y b : Int) + dYi d = (((Y b : Int) + dYi d).toNat : Nat) by omega]
    exact ⟨fun z => absurd z (by decide), fun _ => K _ (H.mv hb) ((Fr.rf.pa (by decide)).pa (by decide))⟩
theorem steps_in_m {G : rx_Gh} {F : Int32 → rx_Hp → Prop} (x1 x6 : Int32) {hm0 : rx_Hp} {fs : List (Nat × Nat)} {as : List Nat} (h4 : 13 ∈ as) (h5 : 14 ∈ as) : ∀ (m b : Nat) (X Y : Nat → Nat) (x : Int64) (hp : rx_Hp), b + m = nb → HOk nb w h g t X Y A → HM nb w h g t X Y A hp → Fr fs as hm0 hp → AM nb na R hp →
    (∀ hp', HOk nb w h g t (wF nxt drw w h m b X Y x).1 (wF nxt drw w h m b X Y x).2.1 A → HM nb w h g t (wF nxt drw w h m b X Y x).1 (wF nxt drw w h m b X Y x).2.1 A hp' → Fr fs as hm0 hp' → AM nb na R hp' → Rn wM G 3 q_M_steps 25 [some (.ref 0), some (.int x1), none, none, some (.long (wF nxt drw w h m b X Y x).2.2), none, some (.int (x6 + 1)), none, none, none, none] [] hp' (rI F)) →
    Rn wM G 3 q_M_steps 38 [some (.ref 0), some (.int x1), none, none, some (.long x), none, some (.int x6), some (.int (zI b)), none, none, none] [] hp (rI F) := by
  intro m
  induction m with
  | zero =>
    intro b X Y x hp hb ok H f a K
    have h6 := ok.1
    have hcn : hp.1 0 23 ≤ zI b := by rw [H.1.1]; exact (zI_le (by omega) (by omega)).mpr (by omega)
    refine w_M_steps_38 _ _ _ _ ?_
    rw [nxt_def, drw_def]
    rw [wF_0] at K
    exact ⟨fun _ => K hp ok H f a, fun c => absurd hcn c⟩
  | succ m ih =>
    intro b X Y x hp hb ok H f a K
    have h6 := ok.1
    have hcn : ¬ hp.1 0 23 ≤ zI b := by rw [H.1.1, zI_le (by omega) (by omega)]; omega
    rw [wF_s] at K
    refine w_M_steps_38 _ _ _ _ ?_
    rw [nxt_def, drw_def]
    revert K ih
    generalize nxt = u
    generalize drw = v
    intro ih K
    generalize v (u x) = d at K ⊢
    generalize u x = x' at K ⊢
    refine ⟨fun c => absurd c hcn, fun _ => ⟨vp_N (by omega) (by omega), ?_⟩⟩
    rw [show zI (b : Int) + 1 = zI ((b + 1 : Nat) : Int) from zI_add b 1]
    refine wander_m ok H (by omega) d (P := fun hp1 => Rn wM G 3 q_M_steps 38 [some (.ref 0), some (.int x1), none, none, some (.long x'), none, some (.int x6), some (.int (zI ((b + 1 : Nat) : Int))), none, none, none] [] hp1 (rI F)) (fun hp' H' f' => ?_)
    have f2 : Fr fs as hm0 hp' := f.tr (f'.mono (fun _ q => by cases q) (fun k q => by
      rcases List.mem_cons.mp q with rfl | q
      · exact h4
      · rcases List.mem_cons.mp q with rfl | q
        · exact h5
        · cases q))
    exact ih (b + 1) _ _ x' hp' (by omega) (wn_ok ok b d) H' f2 (a.fr f') K
end STP

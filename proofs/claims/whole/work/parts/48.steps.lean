/-! steps, move, glass: the answers -/
def sF (u : Int64 → Int64) (v : Int64 → Int32) (nb w h g : Nat) : Nat → Nat → (Nat → Nat → Nat) → (Nat → Nat) → (Nat → Nat) → Int64 → Nat × (Nat → Nat → Nat) × (Nat → Nat) × (Nat → Nat)
  | 0, na, R, X, Y, _ => (na, R, X, Y)
  | n + 1, na, R, X, Y, x => sF u v nb w h g n (pushN na) (pushR na R (rowN g X Y)) (wF u v w h nb 0 X Y x).1 (wF u v w h nb 0 X Y x).2.1 (wF u v w h nb 0 X Y x).2.2
theorem sF_0 (u : Int64 → Int64) (v : Int64 → Int32) (nb w h g na : Nat) (R : Nat → Nat → Nat) (X Y : Nat → Nat) (x : Int64) : sF u v nb w h g 0 na R X Y x = (na, R, X, Y) := by rw [sF]
theorem sF_s (u : Int64 → Int64) (v : Int64 → Int32) (nb w h g n na : Nat) (R : Nat → Nat → Nat) (X Y : Nat → Nat) (x : Int64) : sF u v nb w h g (n + 1) na R X Y x = sF u v nb w h g n (pushN na) (pushR na R (rowN g X Y)) (wF u v w h nb 0 X Y x).1 (wF u v w h nb 0 X Y x).2.1 (wF u v w h nb 0 X Y x).2.2 := by rw [sF]
theorem pushN_le (na : Nat) : pushN na ≤ 40 := by unfold pushN; split <;> omega
section STQ
variable {nb w h g t : Nat} {A : Nat → Nat}
theorem steps_out_c {G : rx_Gh} {F : Int32 → rx_Hp → Prop} {n : Nat} (hn : n ≤ 40) {hc0 : rx_Hp} : ∀ (m k na nx : Nat) (R : Nat → Nat → Nat) (X Y : Nat → Nat) (x : Int64) (hp : rx_Hp), k + m = n → na ≤ 40 → HOk nb w h g t X Y A → AOk nb w h na R → HC nb w h g t X Y A hp → Fr [(37, 1), (37, 2)] [38, 4, 5] hc0 hp → AC nb na nx R hp →
    (∀ q, q = sF nxt drw nb w h g m na R X Y x → ∀ hp' nx', HOk nb w h g t q.2.2.1 q.2.2.2 A → AOk nb w h q.1 q.2.1 → HC nb w h g t q.2.2.1 q.2.2.2 A hp' → Fr [(37, 1), (37, 2)] [38, 4, 5] hc0 hp' → AC nb q.1 nx' q.2.1 hp' → F (zI q.1) hp') →
    Rn wC G 3 q_GR_steps 29 [some (.ref 0), some (.int (zI n)), none, none, some (.long x), none, some (.int (zI k)), none] [] hp (rI F) := by
  intro m
  induction m with
  | zero =>
    intro k na nx R X Y x hp hk hna ok oa H f a K
    have hcn : zI (n : Int) ≤ zI (k : Int) := (zI_le (by omega) (by omega)).mpr (by omega)
    have K := K _ rfl
    rw [sF_0] at K
    refine w_GR_steps_29 _ _ _ ⟨fun _ => ?_, fun c => absurd hcn c⟩
    rw [a.2.1]
    exact K hp nx ok oa H f a
  | succ m ih =>
    intro k na nx R X Y x hp hk hna ok oa H f a K
    have hcn : ¬ zI (n : Int) ≤ zI (k : Int) := fun q => by have := (zI_le (by omega) (by omega)).mp q; omega
    obtain ⟨p1, p2, nx', p3⟩ := rem_c ok H hna a
    have H' := H.fr p2
    have f' : Fr [(37, 1), (37, 2)] [38, 4, 5] hc0 (g_Ac_remember hp) := f.tr (p2.mono (fun _ q => q) (fun k q => by
      rcases List.mem_cons.mp q with rfl | q
      · decide
      · cases q))
    refine w_GR_steps_29 _ _ _ ⟨fun c => absurd c hcn, fun _ => ⟨p1, ?_⟩⟩
    refine steps_in_c _ _ (by decide) (by decide) nb 0 X Y x _ (by omega) ok H' f' p3 (fun hp2 ok2 H2 f2 a2 => ?_)
    rw [show zI (k : Int) + 1 = zI ((k + 1 : Nat) : Int) from zI_add k 1]
    refine ih (k + 1) (pushN na) nx' _ _ _ _ hp2 (by omega) (pushN_le na) ok2 (pushOk ok oa) H2 f2 a2 (fun q e => K q ?_)
    rw [sF_s]; exact e
theorem steps_out_m {G : rx_Gh} {F : Int32 → rx_Hp → Prop} {n : Nat} (hn : n ≤ 40) {hm0 : rx_Hp} : ∀ (m k na : Nat) (R : Nat → Nat → Nat) (X Y : Nat → Nat) (x : Int64) (hp : rx_Hp), k + m = n → na ≤ 40 → HOk nb w h g t X Y A → AOk nb w h na R → HM nb w h g t X Y A hp → Fr [(0, 30)] [16, 13, 14] hm0 hp → AM nb na R hp →
    (∀ q, q = sF nxt drw nb w h g m na R X Y x → ∀ hp', HOk nb w h g t q.2.2.1 q.2.2.2 A → AOk nb w h q.1 q.2.1 → HM nb w h g t q.2.2.1 q.2.2.2 A hp' → Fr [(0, 30)] [16, 13, 14] hm0 hp' → AM nb q.1 q.2.1 hp' → F (zI q.1) hp') →
    Rn wM G 3 q_M_steps 25 [some (.ref 0), some (.int (zI n)), none, none, some (.long x), none, some (.int (zI k)), none, none, none, none] [] hp (rI F) := by
  intro m
  induction m with
  | zero =>
    intro k na R X Y x hp hk hna ok oa H f a K
    have hcn : zI (n : Int) ≤ zI (k : Int) := (zI_le (by omega) (by omega)).mpr (by omega)
    have K := K _ rfl
    rw [sF_0] at K
    refine w_M_steps_25 _ _ _ ⟨fun _ => ?_, fun c => absurd hcn c⟩
    rw [a.1]
    exact K hp ok oa H f a
  | succ m ih =>
    intro k na R X Y x hp hk hna ok oa H f a K
    have hcn : ¬ zI (n : Int) ≤ zI (k : Int) := fun q => by have := (zI_le (by omega) (by omega)).mp q; omega
    refine w_M_steps_25 _ _ _ ⟨fun c => absurd c hcn, fun _ => ?_⟩
    refine keepAct_m ok H hna a (fun hp1 p2 p3 => ?_)
    have H' := H.fr p2
    have f' : Fr [(0, 30)] [16, 13, 14] hm0 hp1 := f.tr (p2.mono (fun _ q => q) (fun k q => by
      rcases List.mem_cons.mp q with rfl | q
      · decide
      · cases q))
    refine steps_in_m _ _ (by decide) (by decide) nb 0 X Y x _ (by omega) ok H' f' p3 (fun hp2 ok2 H2 f2 a2 => ?_)
    rw [show zI (k : Int) + 1 = zI ((k + 1 : Nat) : Int) from zI_add k 1]
    refine ih (k + 1) (pushN na) _ _ _ _ hp2 (by omega) (pushN_le na) ok2 (pushOk ok oa) H2 f2 a2 (fun q e => K q ?_)
    rw [sF_s]; exact e
variable {na nx : Nat} {X Y : Nat → Nat} {R : Nat → Nat → Nat} {hc hm : rx_Hp}
def stpI (nb : Nat) (n : Int32) : Bool := decide (0 < nb) && (decide (1 ≤ n.toInt) && decide (n.toInt ≤ 40))
theorem a_steps_c {G : rx_Gh} {F : Int32 → rx_Hp → Prop} (ok : HOk nb w h g t X Y A) (oa : AOk nb w h na R) (H : HC nb w h g t X Y A hc) (a : AC nb na nx R hc) (n : Int32) (x : Int64) (K0 : stpI nb n = false → F (-1) hc) (K1 : stpI nb n = true → ∀ q, q = sF nxt drw nb w h g n.toInt.toNat na R X Y x → ∀ hp' nx', HOk nb w h g t q.2.2.1 q.2.2.2 A → AOk nb w h q.1 q.2.1 → HC nb w h g t q.2.2.1 q.2.2.2 A hp' → Fr [(37, 1), (37, 2)] [38, 4, 5] hc hp' → AC nb q.1 nx' q.2.1 hp' → F (zI q.1) hp') : Ev wC G 3 q_GR_steps [.ref 0, .int n, .long x] hc (rI F) := by
  have h6 := ok.1
  have e1 := i_lt n 1 (by omega)
  have e2 := i_le n 40 (by omega)
  refine w_GR_steps n x ?_
  rw [stands_c h6 H.1.1]
  refine ⟨fun c => K0 ?_, fun c1 => ⟨fun c => K0 ?_, fun c2 => ⟨fun c3 => ?_, fun c => K0 ?_⟩⟩⟩
  · unfold stpI; rw [(b2_0 _).mp c]; rfl
  · have := e1.mp c
    unfold stpI; simp; omega
  · have z2 := mtn e1 c2
    have z3 := e2.mp c3
    have z : stpI nb n = true := by unfold stpI; rw [b2_t c1]; simp; omega
    have hz := zI_N (x := n) (by omega)
    have K1 := K1 z
    rw [hz]
    exact steps_out_c (n := n.toInt.toNat) (by omega) n.toInt.toNat 0 na nx R X Y x hc (by omega) oa.1 ok oa H Fr.rf a K1
  · have := mtn e2 c
    unfold stpI; simp; omega
theorem a_steps_m {G : rx_Gh} {F : Int32 → rx_Hp → Prop} (ok : HOk nb w h g t X Y A) (oa : AOk nb w h na R) (H : HM nb w h g t X Y A hm) (a : AM nb na R hm) (n : Int32) (x : Int64) (K0 : stpI nb n = false → F (-1) hm) (K1 : stpI nb n = true → ∀ q, q = sF nxt drw nb w h g n.toInt.toNat na R X Y x → ∀ hp', HOk nb w h g t q.2.2.1 q.2.2.2 A → AOk nb w h q.1 q.2.1 → HM nb w h g t q.2.2.1 q.2.2.2 A hp' → Fr [(0, 30)] [16, 13, 14] hm hp' → AM nb q.1 q.2.1 hp' → F (zI q.1) hp') : Ev wM G 3 q_M_steps [.ref 0, .int n, .long x] hm (rI F) := by
  have h6 := ok.1
  have e1 : f_M_in n 1 40 = b2 (decide (1 ≤ n.toInt) && decide (n.toInt ≤ 40)) := in_m n (lo := 1) (hi := 40) (by omega) (by omega)
  have c0 : hm.1 0 23 = 0 ↔ nb = 0 := by rw [H.1.1]; exact z0_iff (by omega)
  refine w_M_steps n x ?_
  rw [e1]
  refine ⟨fun c => K0 ?_, fun c1 => ⟨fun c => K0 ?_, fun c2 => ?_⟩⟩
  · have := c0.mp c
    unfold stpI; simp [this]
  · unfold stpI; rw [(b2_0 _).mp c, Bool.and_false]
  · have z1 := mtn c0 c1
    have z2 := b2_t c2
    have z : stpI nb n = true := by unfold stpI; rw [z2]; simp; omega
    simp only [Bool.and_eq_true, decide_eq_true_eq] at z2
    have hz := zI_N (x := n) (by omega)
    have K1 := K1 z
    rw [hz]
    exact steps_out_m (n := n.toInt.toNat) (by omega) n.toInt.toNat 0 na R X Y x hm (by omega) oa.1 ok oa H Fr.rf a K1
end STQ

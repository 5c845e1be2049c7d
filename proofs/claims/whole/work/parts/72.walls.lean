/-! walls, both sides: the least set by how many walls, then by its number -/
def bcN (s : Nat) : Nat := s % 2 + s / 2 % 2 + s / 4 % 2 + s / 8 % 2
theorem bc_z : ∀ s : Fin 16, f_It_bitCount (zI (s : Nat)) = zI (bcN (s : Nat) : Nat) := by decide +kernel
theorem bcN_le {s : Nat} (h : s < 16) : bcN s ≤ 4 := by unfold bcN; omega
def wlE : Option Nat → Int32
  | none => -1
  | some s => zI s
def wlM (P : Nat → Bool) : Nat → Option Nat
  | 0 => none
  | k + 1 => match wlM P k with
    | none => if P k = true then some k else none
    | some s => if bcN k < bcN s ∧ P k = true then some k else some s
def wlS (P : Nat → Bool) (k : Nat) : Option Nat → Prop
  | none => ∀ s, s < k → P s = false
  | some r => r < k ∧ P r = true ∧ ∀ s, s < k → P s = true → bcN r < bcN s ∨ (bcN r = bcN s ∧ r ≤ s)
theorem wlM_S (P : Nat → Bool) : ∀ k, wlS P k (wlM P k)
  | 0 => fun s hs => absurd hs (Nat.not_lt_zero s)
  | k + 1 => by
    have ih := wlM_S P k
    unfold wlM
    cases hw : wlM P k with
    | none =>
      rw [hw] at ih
      simp only
      by_cases hp : P k = true
      · rw [if_pos hp]
        refine ⟨by omega, hp, fun s hs hq => ?_⟩
        by_cases hk : s = k
        · subst hk; exact Or.inr ⟨rfl, Nat.le_refl _⟩
        · rw [ih s (by omega)] at hq; cases hq
      · rw [if_neg hp]
        intro s hs
        by_cases hk : s = k
        · subst hk; simpa using hp
        · exact ih s (by omega)
    | some r =>
      rw [hw] at ih
      obtain ⟨i1, i2, i3⟩ := ih
      simp only
      by_cases hp : bcN k < bcN r ∧ P k = true
      · rw [if_pos hp]
        refine ⟨by omega, hp.2, fun s hs hq => ?_⟩
        by_cases hk : s = k
        · subst hk; exact Or.inr ⟨rfl, Nat.le_refl _⟩
        · have := i3 s (by omega) hq
          omega
      · rw [if_neg hp]
        refine ⟨by omega, i2, fun s hs hq => ?_⟩
        by_cases hk : s = k
        · subst hk
          have : ¬ bcN s < bcN r := fun z => hp ⟨z, hq⟩
          omega
        · exact i3 s (by omega) hq
theorem wlS_uni {P : Nat → Bool} {k : Nat} {a b : Option Nat} (ha : wlS P k a) (hb : wlS P k b) : a = b := by
  cases a with
  | none =>
    cases b with
    | none => rfl
    | some s => have := ha s hb.1; rw [hb.2.1] at this; cases this
  | some r =>
    cases b with
    | none => have := hb r ha.1; rw [ha.2.1] at this; cases this
    | some s =>
      have h1 := ha.2.2 s hb.1 hb.2.1
      have h2 := hb.2.2 r ha.1 ha.2.1
      rw [show r = s by omega]
section WAL
variable {nb w h g t : Nat} {X Y A : Nat → Nat}
theorem wl_m {G : rx_Gh} {F : Int32 → rx_Hp → Prop} (ok : HOk nb w h g t X Y A) {e : Nat} (he : e < nb) (l : Int32) : ∀ (m k g' : Nat) (hm : rx_Hp), g' < 16 → HM nb w h g' t X Y A hm → k + m = 16 → (∀ h', Fr [(0, 26)] [] hm h' → HM nb w h g t X Y A h' → F (wlE (wlM (fun s => saA w h s X Y nb e l nb 0) 16)) h') → Rn wM G 8 q_M_walls 31 [some (.ref 0), some (.int (zI e)), some (.int l), some (.int (zI g)), some (.int (wlE (wlM (fun s => saA w h s X Y nb e l nb 0) k))), some (.int (zI k))] [] hm (rI F) := by
  intro m
  induction m with
  | zero =>
    intro k g' hm hg' H hk K
    have hcn : 16 ≤ zI (k : Int) := by rw [show (16 : Int32) = zI 16 from by decide]; exact (zI_le (by omega) (by omega)).mpr (by omega)
    refine w_M_walls_31 _ _ _ _ _ ⟨fun _ => ?_, fun c => absurd hcn c⟩
    rw [show k = 16 by omega]
    exact K _ (Fr.rf.pf (by decide)) (H.gl g)
  | succ m ih =>
    intro k g' hm hg' H hk K
    have hcn : ¬ 16 ≤ zI (k : Int) := by rw [show (16 : Int32) = zI 16 from by decide, zI_le (by omega) (by omega)]; omega
    have go : ∀ b, (b = true ↔ (match wlM (fun s => saA w h s X Y nb e l nb 0) k with | none => True | some s => bcN k < bcN s)) → (b = true → Ev wM G 7 q_M_seesAll [.ref 0, .int (zI e), .int l] (rx_pf hm 0 26 (zI k)) (rI fun r2 h1 => Rn wM G 8 q_M_walls 31 [some (.ref 0), some (.int (zI e)), some (.int l), some (.int (zI g)), some (.int ((if r2 = 0 then wlE (wlM (fun s => saA w h s X Y nb e l nb 0) k) else zI k) : Int32)), some (.int (zI ((k + 1 : Nat) : Int)))] [] h1 (rI F))) := by
      intro b hb hbt
      have hb := hb.mp hbt
      refine w_M_seesAll _ _ ?_
      refine sa_m (ok.gl (s := k) (by omega)) (H.gl k) he l nb 0 (by omega) ?_
      have e1 : (if b2 (saA w h k X Y nb e l nb 0) = 0 then wlE (wlM (fun s => saA w h s X Y nb e l nb 0) k) else zI k) = wlE (wlM (fun s => saA w h s X Y nb e l nb 0) (k + 1)) := by
        rw [wlM]
        cases hP : saA w h k X Y nb e l nb 0 with
        | false =>
          rw [if_pos (show b2 false = 0 from rfl)]
          cases wlM (fun s => saA w h s X Y nb e l nb 0) k <;> simp [hP]
        | true =>
          rw [if_neg (show ¬ b2 true = 0 by decide)]
          revert hb
          cases wlM (fun s => saA w h s X Y nb e l nb 0) k with
          | none => intro _; simp [hP, wlE]
          | some s => intro hb; simp only at hb; simp [hP, hb, wlE]
      rw [e1]
      refine ih (k + 1) k _ (by omega) (H.gl k) (by omega) (fun h' f H' => K h' (Fr.tr (Fr.rf.pf (by decide)) f) H')
    have e2 : zI (k : Int) + 1 = zI ((k + 1 : Nat) : Int) := zI_add k 1
    refine w_M_walls_31 _ _ _ _ _ ⟨fun c => absurd c hcn, fun _ => ?_⟩
    rw [e2]
    have hS := wlM_S (fun s => saA w h s X Y nb e l nb 0) k
    cases hw : wlM (fun s => saA w h s X Y nb e l nb 0) k with
    | none =>
      rw [hw] at go
      exact ⟨fun _ => go true (by simp) rfl, fun c => absurd rfl c⟩
    | some s =>
      rw [hw] at go hS
      have hs : s < k := hS.1
      have b1 := bc_z ⟨s, by omega⟩
      have b2' := bc_z ⟨k, by omega⟩
      have l1 := bcN_le (s := s) (by omega)
      have l2 := bcN_le (s := k) (by omega)
      simp only at b1 b2'
      have n1 : ¬ wlE (some s) = -1 := by
        show ¬ zI (s : Int) = -1
        rw [show (-1 : Int32) = zI (-1) from by decide, zI_eq (by omega) (by omega)]; omega
      refine ⟨fun c => absurd c n1, fun _ => ⟨fun c => ?_, fun c => ?_⟩⟩
      · have c : f_It_bitCount (zI s) ≤ f_It_bitCount (zI k) := c
        rw [b1, b2', zI_le (by omega) (by omega)] at c
        have e3 : wlM (fun s => saA w h s X Y nb e l nb 0) (k + 1) = some s := by
          rw [wlM, hw]; simp only
          rw [if_neg (fun z => by omega)]
        rw [← e3]
        exact ih (k + 1) g' hm hg' H (by omega) K
      · have c : ¬ f_It_bitCount (zI s) ≤ f_It_bitCount (zI k) := c
        rw [b1, b2', zI_le (by omega) (by omega)] at c
        exact go true (by simp; omega) rfl
def A_walls (nb w h : Nat) (X Y : Nat → Nat) (e l : Int32) : Int32 := if isB nb e && (decide (0 ≤ l.toInt) && decide (l.toInt ≤ 25)) then wlE (wlM (fun s => saA w h s X Y nb e.toInt.toNat l nb 0) 16) else -1
theorem a_walls_m {G : rx_Gh} {hm : rx_Hp} (ok : HOk nb w h g t X Y A) (H : HM nb w h g t X Y A hm) (e l : Int32) {F : Int32 → rx_Hp → Prop} (K : ∀ h', Fr [(0, 26)] [] hm h' → HM nb w h g t X Y A h' → F (A_walls nb w h X Y e l) h') : Ev wM G 8 q_M_walls [.ref 0, .int e, .int l] hm (rI F) := by
  have h6 := ok.1
  have e1 : f_M_in l 0 25 = b2 (decide (0 ≤ l.toInt) && decide (l.toInt ≤ 25)) := in_m l (lo := 0) (hi := 25) (by omega) (by omega)
  refine w_M_walls e l ?_
  rw [isB_m h6 H.1.1, e1, H.1.2.2.2.1]
  unfold A_walls at K
  refine ⟨fun c => ?_, fun c => ⟨fun c2 => ?_, fun c2 => ?_⟩⟩
  · have K := K hm Fr.rf H
    rw [(b2_0 _).mp c] at K; exact K
  · have K := K hm Fr.rf H
    rw [(b2_0 _).mp c2, Bool.and_false] at K; exact K
  · have q1 := b2_t c
    have q2 := b2_t c2
    obtain ⟨e', k4, rfl⟩ := isB_of q1
    rw [q1, q2, zI_back (by omega)] at K
    exact wl_m ok k4 l 16 0 g hm ok.2.2.2.1 H (by omega) K
theorem wl_cs {G : rx_Gh} {F : Int32 → rx_Hp → Prop} (ok : HOk nb w h g t X Y A) {e : Nat} (he : e < nb) (l : Int32) {P : Nat → Bool} (hP : P = fun s => saA w h s X Y nb e l nb 0) {k : Nat} (hk : k ≤ 4) : ∀ (m s : Nat) (hc : rx_Hp), HC nb w h g t X Y A hc → s + m = 16 → (∀ r, r < 16 → P r = true → k < bcN r ∨ (bcN r = k ∧ s ≤ r)) → (∀ h' r, Fr siF [] hc h' → wlS P 16 (some r) → F (zI r) h') → (∀ h', Fr siF [] hc h' → (∀ r, r < 16 → P r = true → k < bcN r) → Rn wC G 7 q_GR_walls 25 [some (.ref 0), some (.int (zI e)), some (.int l), some (.int (zI ((k + 1 : Nat) : Int))), none] [] h' (rI F)) → Rn wC G 7 q_GR_walls 33 [some (.ref 0), some (.int (zI e)), some (.int l), some (.int (zI k)), some (.int (zI s))] [] hc (rI F) := by
  intro m
  induction m with
  | zero =>
    intro s hc H hs I K1 K2
    have hcn : 15 < zI (s : Int) := by rw [show (15 : Int32) = zI 15 from by decide, zI_lt (by omega) (by omega)]; omega
    refine w_GR_walls_33 _ _ _ _ ⟨fun _ => ?_, fun c => absurd hcn c⟩
    rw [show zI (k : Int) + 1 = zI ((k + 1 : Nat) : Int) from zI_add k 1]
    refine K2 hc Fr.rf (fun r hr hq => ?_)
    have := I r hr hq
    omega
  | succ m ih =>
    intro s hc H hs I K1 K2
    have hcn : ¬ 15 < zI (s : Int) := by rw [show (15 : Int32) = zI 15 from by decide, zI_lt (by omega) (by omega)]; omega
    have b1 := bc_z ⟨s, by omega⟩
    have l1 := bcN_le (s := s) (by omega)
    simp only at b1
    refine w_GR_walls_33 _ _ _ _ ⟨fun c => absurd c hcn, fun _ => ?_⟩
    rw [show zI (s : Int) + 1 = zI ((s + 1 : Nat) : Int) from zI_add s 1, b1, zI_eq (by omega) (by omega)]
    refine ⟨fun c => ?_, fun c => ?_⟩
    · refine w_Si_seesAll _ _ _ ?_
      refine sa_c ok (g' := s) (by omega) he l nb 0 hc H (by omega) (fun h' f => ?_)
      refine ⟨fun d => ?_, fun d => ?_⟩
      · have d := (b2_0 _).mp d
        refine ih (s + 1) h' (H.fr f) (by omega) (fun r hr hq => ?_) (fun h'' r f' => K1 h'' r (Fr.tr f f')) (fun h'' f' => K2 h'' (Fr.tr f f'))
        have := I r hr hq
        by_cases hrs : r = s
        · subst hrs
          rw [hP] at hq
          simp only at hq
          rw [d] at hq; cases hq
        · omega
      · have d := b2_t d
        refine K1 h' s f ⟨by omega, by rw [hP]; exact d, fun r hr hq => ?_⟩
        have := I r hr hq
        omega
    · refine ih (s + 1) hc H (by omega) (fun r hr hq => ?_) K1 K2
      have := I r hr hq
      by_cases hrs : r = s
      · subst hrs; omega
      · omega
theorem wl_ck {G : rx_Gh} {F : Int32 → rx_Hp → Prop} (ok : HOk nb w h g t X Y A) {e : Nat} (he : e < nb) (l : Int32) {P : Nat → Bool} (hP : P = fun s => saA w h s X Y nb e l nb 0) : ∀ (m k : Nat) (hc : rx_Hp), HC nb w h g t X Y A hc → k + m = 5 → (∀ r, r < 16 → P r = true → k ≤ bcN r) → (∀ h', Fr siF [] hc h' → F (wlE (wlM P 16)) h') → Rn wC G 7 q_GR_walls 25 [some (.ref 0), some (.int (zI e)), some (.int l), some (.int (zI k)), none] [] hc (rI F) := by
  intro m
  induction m with
  | zero =>
    intro k hc H hk I K
    have hcn : 4 < zI (k : Int) := by rw [show (4 : Int32) = zI 4 from by decide, zI_lt (by omega) (by omega)]; omega
    refine w_GR_walls_25 _ _ _ ⟨fun _ => ?_, fun c => absurd hcn c⟩
    have hS : wlS P 16 none := by
      intro s hs
      cases hq : P s with
      | false => rfl
      | true =>
        have := I s hs hq
        have := bcN_le hs
        omega
    have K := K hc Fr.rf
    rw [wlS_uni (wlM_S P 16) hS] at K
    exact K
  | succ m ih =>
    intro k hc H hk I K
    have hcn : ¬ 4 < zI (k : Int) := by rw [show (4 : Int32) = zI 4 from by decide, zI_lt (by omega) (by omega)]; omega
    refine w_GR_walls_25 _ _ _ ⟨fun c => absurd c hcn, fun _ => ?_⟩
    refine wl_cs ok he l hP (by omega) 16 0 hc H (by omega) (fun r hr hq => by have := I r hr hq; omega) (fun h' r f hS => ?_) (fun h' f I' => ih (k + 1) h' (H.fr f) (by omega) (fun r hr hq => by have := I' r hr hq; omega) (fun h'' f' => K h'' (Fr.tr f f')))
    have K := K h' f
    rw [wlS_uni (wlM_S P 16) hS] at K
    exact K
theorem a_walls_c {G : rx_Gh} {hc : rx_Hp} (ok : HOk nb w h g t X Y A) (H : HC nb w h g t X Y A hc) (e l : Int32) {F : Int32 → rx_Hp → Prop} (K : ∀ h', Fr siF [] hc h' → F (A_walls nb w h X Y e l) h') : Ev wC G 7 q_GR_walls [.ref 0, .int e, .int l] hc (rI F) := by
  have h6 := ok.1
  have e1 := i_lt l 0 (by omega)
  have e2 := i_le l 25 (by omega)
  refine w_GR_walls e l ?_
  rw [has_c h6 H.1.1]
  unfold A_walls at K
  refine ⟨fun c => ?_, fun c => ⟨fun d => ?_, fun d => ⟨fun d2 => ?_, fun d2 => ?_⟩⟩⟩
  · have K := K hc Fr.rf
    rw [(b2_0 _).mp c] at K; exact K
  · have d := e1.mp d
    have K := K hc Fr.rf
    rw [decide_eq_false (show ¬ 0 ≤ l.toInt by omega), Bool.false_and, Bool.and_false] at K; exact K
  · have d := mtn e1 d
    have d2 := e2.mp d2
    have q1 := b2_t c
    obtain ⟨e', k4, rfl⟩ := isB_of q1
    rw [q1, decide_eq_true (show 0 ≤ l.toInt by omega), decide_eq_true (show l.toInt ≤ 25 by omega), zI_back (by omega)] at K
    exact wl_ck ok k4 l rfl 5 0 hc H (by omega) (fun r _ _ => Nat.zero_le _) K
  · have d2 := mtn e2 d2
    have K := K hc Fr.rf
    rw [decide_eq_false (show ¬ l.toInt ≤ 25 by omega), Bool.and_false, Bool.and_false] at K; exact K
end WAL

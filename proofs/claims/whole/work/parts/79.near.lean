/-! near, within: the model -/
section NRM
variable {nb w h g t : Nat} {X Y A : Nat → Nat}
def NR (w h : Nat) (X Y : Nat → Nat) (e b : Nat) (L : List (Int × Int)) (hm : rx_Hp) : Prop := hm.1 0 34 = zI (L.length : Nat) ∧ ∀ k x, L[k]? = some x → hm.2.1 17 k = zI x.1 ∧ hm.2.1 18 k = zI x.2 ∧ hm.2.1 19 k = zI (nrF w h X Y e b x)
theorem ins_at {α : Type} {f : α → Int} {L : List α} (hL : L.Pairwise (fun x y => f x ≤ f y)) {x : α} {k : Nat} (hk : k ≤ L.length) (h1 : ∀ y, 0 < k → L[k - 1]? = some y → f y ≤ f x) (h2 : ∀ t y, k ≤ t → L[t]? = some y → f x < f y) : insF f L x = L.take k ++ x :: L.drop k := by
  have sp : L = L.take k ++ L.drop k := (List.take_append_drop k L).symm
  have a1 : ∀ y ∈ L.take k, f y ≤ f x := by
    intro y hy
    obtain ⟨s, hs⟩ := List.getElem?_of_mem hy
    have hs1 := (List.getElem?_eq_some_iff.mp hs).1
    rw [List.length_take] at hs1
    have hs2 : s < k := by omega
    rw [List.getElem?_take_of_lt hs2] at hs
    obtain ⟨z, hz⟩ : ∃ z, L[k - 1]? = some z := ⟨_, List.getElem?_eq_getElem (show k - 1 < L.length by omega)⟩
    have hz1 := h1 z (by omega) hz
    by_cases q : s = k - 1
    · subst q; rw [hs] at hz; have := Option.some.inj hz; subst this; exact hz1
    · have hp := List.pairwise_iff_getElem.mp hL s (k - 1) (by omega) (by omega) (by omega)
      have e1 := (List.getElem?_eq_some_iff.mp hs).2
      have e2 := (List.getElem?_eq_some_iff.mp hz).2
      rw [e1, e2] at hp
      omega
  have a2 : ∀ y ∈ L.drop k, f x < f y := by
    intro y hy
    obtain ⟨s, hs⟩ := List.getElem?_of_mem hy
    rw [List.getElem?_drop] at hs
    exact h2 (k + s) y (by omega) hs
  unfold insF
  have f1 : L.filter (fun y => decide (f y ≤ f x)) = L.take k := by
    conv => lhs; rw [sp]
    rw [List.filter_append, List.filter_eq_self.mpr (fun y hy => by have := a1 y hy; simpa using this), List.filter_eq_nil_iff.mpr (fun y hy => by have := a2 y hy; simp; omega), List.append_nil]
  have f2 : L.filter (fun y => decide (f x < f y)) = L.drop k := by
    conv => lhs; rw [sp]
    have f3 : (L.take k).filter (fun y => decide (f x < f y)) = [] := List.filter_eq_nil_iff.mpr (fun y hy => by have := a1 y hy; simp; omega)
    have f4 : (L.drop k).filter (fun y => decide (f x < f y)) = L.drop k := List.filter_eq_self.mpr (fun y hy => by have := a2 y hy; simpa using this)
    rw [List.filter_append, f3, f4, List.nil_append]
  rw [f1, f2]
theorem ins_get {α : Type} {L : List α} {x : α} {k s : Nat} (hk : k ≤ L.length) : (L.take k ++ x :: L.drop k)[s]? = if s < k then L[s]? else if s = k then some x else L[s - 1]? := by
  have hl : (L.take k).length = k := by rw [List.length_take]; omega
  by_cases q : s < k
  · rw [if_pos q, List.getElem?_append_left (by omega), List.getElem?_take_of_lt q]
  · rw [if_neg q, List.getElem?_append_right (by omega), hl]
    by_cases q2 : s = k
    · subst q2; rw [Nat.sub_self, if_pos rfl]; rfl
    · rw [if_neg q2, show s - k = (s - k - 1) + 1 by omega, List.getElem?_cons_succ, List.getElem?_drop, show k + (s - k - 1) = s - 1 by omega]
theorem ln_k {G : rx_Gh} {F : rx_Hp → Prop} (ok : HOk nb w h g t X Y A) {b e : Nat} (hb : b < nb) (he : e < nb) {i j : Int} (hi : -10 ≤ i ∧ i ≤ 10) (hj : -10 ≤ j ∧ j ≤ 10) {L : List (Int × Int)} (hL : L.Pairwise (fun x y => nrF w h X Y e b x ≤ nrF w h X Y e b y)) (hl : L.length ≤ 440) (hbd : ∀ x ∈ L, 0 ≤ nrF w h X Y e b x ∧ nrF w h X Y e b x ≤ 115200) : ∀ (k : Nat) (hm : rx_Hp), k ≤ L.length → hm.1 0 34 = zI (L.length : Nat) → (∀ s x, s < k → L[s]? = some x → hm.2.1 17 s = zI x.1 ∧ hm.2.1 18 s = zI x.2 ∧ hm.2.1 19 s = zI (nrF w h X Y e b x)) → (∀ s x, k ≤ s → L[s]? = some x → (hm.2.1 17 (s + 1) = zI x.1 ∧ hm.2.1 18 (s + 1) = zI x.2 ∧ hm.2.1 19 (s + 1) = zI (nrF w h X Y e b x)) ∧ nrF w h X Y e b (i, j) < nrF w h X Y e b x) → (∀ h', Fr [(0, 34)] [17, 18, 19] hm h' → NR w h X Y e b (insF (nrF w h X Y e b) L (i, j)) h' → Rn wM G 4 q_M_layNear 18 [some (.ref 0), some (.int (zI b)), some (.int (zI e)), some (.int (zI i)), some (.int (zI (j + 1))), none, none] [] h' (rV F)) → Rn wM G 4 q_M_layNear 52 [some (.ref 0), some (.int (zI b)), some (.int (zI e)), some (.int (zI i)), some (.int (zI j)), some (.int (zI (nrF w h X Y e b (i, j)))), some (.int (zI k))] [] hm (rV F) := by
  have bd := nrF_bd ok hb he (i := i) (j := j) hi hj
  intro k
  have stop : ∀ (k : Nat) (hm : rx_Hp), k ≤ L.length → hm.1 0 34 = zI (L.length : Nat) → (∀ s x, s < k → L[s]? = some x → hm.2.1 17 s = zI x.1 ∧ hm.2.1 18 s = zI x.2 ∧ hm.2.1 19 s = zI (nrF w h X Y e b x)) → (∀ s x, k ≤ s → L[s]? = some x → (hm.2.1 17 (s + 1) = zI x.1 ∧ hm.2.1 18 (s + 1) = zI x.2 ∧ hm.2.1 19 (s + 1) = zI (nrF w h X Y e b x)) ∧ nrF w h X Y e b (i, j) < nrF w h X Y e b x) → (∀ y, 0 < k → L[k - 1]? = some y → nrF w h X Y e b y ≤ nrF w h X Y e b (i, j)) → (∀ h', Fr [(0, 34)] [17, 18, 19] hm h' → NR w h X Y e b (insF (nrF w h X Y e b) L (i, j)) h' → Rn wM G 4 q_M_layNear 18 [some (.ref 0), some (.int (zI b)), some (.int (zI e)), some (.int (zI i)), some (.int (zI (j + 1))), none, none] [] h' (rV F)) → Rn wM G 4 q_M_layNear 18 [some (.ref 0), some (.int (zI b)), some (.int (zI e)), some (.int (zI i)), some (.int (zI (j + 1))), none, none] [] (rx_pf (rx_pa (rx_pa (rx_pa hm 17 k (zI i)) 18 k (zI j)) 19 k (zI (nrF w h X Y e b (i, j)))) 0 34 (hm.1 0 34 + 1)) (rV F) := by
    intro k hm hk h34 hlo hhi hst K
    have e1 := ins_at (f := nrF w h X Y e b) hL hk hst (fun s y s1 s2 => (hhi s y s1 s2).2)
    refine K _ ((((Fr.rf.pa (by decide)).pa (by decide)).pa (by decide)).pf (by decide)) ⟨?_, fun s x hx => ?_⟩
    · rw [pf_same, h34, insF_len _ hL]; exact zI_add _ 1
    · rw [e1, ins_get hk] at hx
      rw [pf_a]
      by_cases q : s < k
      · rw [if_pos q] at hx
        rw [pa_ne _ _ (by simp), pa_ne _ _ (by simp), pa_ne _ _ (by simp; omega), pa_ne _ _ (by simp), pa_ne _ _ (by simp; omega), pa_ne _ _ (by simp), pa_ne _ _ (by simp; omega), pa_ne _ _ (by simp), pa_ne _ _ (by simp)]
        exact hlo s x q hx
      · rw [if_neg q] at hx
        by_cases q2 : s = k
        · subst q2
          rw [if_pos rfl] at hx
          have hx := Option.some.inj hx
          subst hx
          rw [pa_ne _ _ (by simp), pa_ne _ _ (by simp), pa_same, pa_ne _ _ (by simp), pa_same, pa_same]
          exact ⟨rfl, rfl, rfl⟩
        · rw [if_neg q2] at hx
          rw [pa_ne _ _ (by simp), pa_ne _ _ (by simp), pa_ne _ _ (by simp; omega), pa_ne _ _ (by simp), pa_ne _ _ (by simp; omega), pa_ne _ _ (by simp), pa_ne _ _ (by simp; omega), pa_ne _ _ (by simp), pa_ne _ _ (by simp)]
          have := (hhi (s - 1) x (by omega) hx).1
          rwa [show s - 1 + 1 = s by omega] at this
  induction k with
  | zero =>
    intro hm hk h34 hlo hhi K
    have c0 : zI ((0 : Nat) : Int) ≤ 0 := by decide
    refine w_M_layNear_52 _ _ _ _ _ _ ⟨fun _ => ⟨vp_N (by omega) (by omega), ?_⟩, fun c => absurd c0 c⟩
    rw [show zI j + 1 = zI (j + 1) from zI_add j 1, zI_cN (by omega)]
    exact stop 0 hm hk h34 hlo hhi (fun y hy => absurd hy (by omega)) K
  | succ k ih =>
    intro hm hk h34 hlo hhi K
    have c0 : ¬ zI ((k + 1 : Nat) : Int) ≤ 0 := by
      have := zI_le (a := ((k + 1 : Nat) : Int)) (b := 0) (by omega) (by omega)
      rw [show zI 0 = (0 : Int32) from by decide] at this
      rw [this]; omega
    obtain ⟨y, hy⟩ : ∃ y, L[k]? = some y := ⟨_, List.getElem?_eq_getElem (show k < L.length by omega)⟩
    have hy3 := hlo k y (by omega) hy
    have by1 := hbd y (List.mem_of_getElem? hy)
    have em : zI ((k + 1 : Nat) : Int) - 1 = zI (k : Int) := by
      rw [show (1 : Int32) = zI ((1 : Nat) : Int) from by decide, zI_subN (by omega), Nat.add_sub_cancel]
    refine w_M_layNear_52 _ _ _ _ _ _ ⟨fun c => absurd c c0, fun _ => ?_⟩
    rw [em, zI_cN (by omega), zI_cN (by omega), hy3.1, hy3.2.1, hy3.2.2, show zI j + 1 = zI (j + 1) from zI_add j 1, zI_le (by omega) (by omega), show zI ((k + 1 : Nat) : Int) + (-1) = zI (k : Int) from by rw [show (-1 : Int32) = zI (-1) from by decide, zI_add]; congr 1; omega]
    refine ⟨vp_N (by omega) (by omega), fun c => ⟨vp_N (by omega) (by omega), ?_⟩, fun c => ⟨vp_N (by omega) (by omega), ?_⟩⟩
    · exact stop (k + 1) hm hk h34 hlo hhi (fun z _ hz => by
        rw [Nat.add_sub_cancel, hy] at hz
        have := Option.some.inj hz
        subst this; exact c) K
    · have fr : Fr [(0, 34)] [17, 18, 19] hm (rx_pa (rx_pa (rx_pa hm 17 (k + 1) (zI y.1)) 18 (k + 1) (zI y.2)) 19 (k + 1) (zI (nrF w h X Y e b y))) := ((Fr.rf.pa (by decide)).pa (by decide)).pa (by decide)
      refine ih _ (by omega) h34 (fun s x s1 hx => ?_) (fun s x s1 hx => ?_) (fun h' f' => K h' (fr.tr f'))
      · rw [pa_ne _ _ (by simp), pa_ne _ _ (by simp), pa_ne _ _ (by simp; omega), pa_ne _ _ (by simp), pa_ne _ _ (by simp; omega), pa_ne _ _ (by simp), pa_ne _ _ (by simp; omega), pa_ne _ _ (by simp), pa_ne _ _ (by simp)]
        exact hlo s x (by omega) hx
      · by_cases q : s = k
        · subst q
          rw [hy] at hx
          have hx := Option.some.inj hx
          subst hx
          rw [pa_ne _ _ (by simp), pa_ne _ _ (by simp), pa_same, pa_ne _ _ (by simp), pa_same, pa_same]
          exact ⟨⟨rfl, rfl, rfl⟩, by omega⟩
        · rw [pa_ne _ _ (by simp), pa_ne _ _ (by simp), pa_ne _ _ (by simp; omega), pa_ne _ _ (by simp), pa_ne _ _ (by simp; omega), pa_ne _ _ (by simp), pa_ne _ _ (by simp; omega), pa_ne _ _ (by simp), pa_ne _ _ (by simp)]
          exact hhi s x (by omega) hx
def nmR (g : Nat) (i j : Int) (m : Nat) : List (Int × Int) := lsUp (fun j => if thI g i j = true then [(i, j)] else []) j m
def nmE (g : Nat) (i : Int) (m : Nat) : List (Int × Int) := lsUp (fun i => nmR g i (-10) 21) i m
theorem nmE_eq (g : Nat) : nmE g (-10) 21 = nrA g := by
  have b1 := loC_bd (g % 4)
  have b2 := hiC_bd (g % 4)
  have b3 := loC_bd (g / 4)
  have b4 := hiC_bd (g / 4)
  have z1 := lnC_z (g % 4)
  have z2 := lnC_z (g / 4)
  unfold nmE nrA nrE
  rw [lsUp_mid (b := loC (g % 4)) (m := lnC (g % 4)) (by omega) (by omega)]
  · refine lsUp_congr _ _ (fun i i1 i2 => ?_)
    unfold nmR nrR
    rw [lsUp_mid (b := loC (g / 4)) (m := lnC (g / 4)) (by omega) (by omega)]
    · refine lsUp_congr _ _ (fun j j1 j2 => ?_)
      rw [if_pos (by unfold thI; simp; omega)]
    · intro j j1 j2; rw [if_neg (by unfold thI; simp; omega)]
    · intro j j1 j2; rw [if_neg (by unfold thI; simp; omega)]
  · intro i i1 i2
    exact lsUp_nil _ _ (fun j _ _ => by rw [if_neg (by unfold thI; simp; omega)])
  · intro i i1 i2
    exact lsUp_nil _ _ (fun j _ _ => by rw [if_neg (by unfold thI; simp; omega)])
theorem insF_mem {α : Type} {f : α → Int} {L : List α} {x y : α} (h : y ∈ insF f L x) : y = x ∨ y ∈ L := by
  unfold insF at h
  rcases List.mem_append.mp h with h | h
  · exact Or.inr (List.mem_filter.mp h).1
  · rcases List.mem_cons.mp h with h | h
    · exact Or.inl h
    · exact Or.inr (List.mem_filter.mp h).1
theorem ln_j {G : rx_Gh} {F : rx_Hp → Prop} (ok : HOk nb w h g t X Y A) {b e : Nat} (hb : b < nb) (he : e < nb) {i : Int} (hi : -10 ≤ i ∧ i ≤ 10) : ∀ (m : Nat) (j : Int) (L : List (Int × Int)) (hm : rx_Hp), HM nb w h g t X Y A hm → j + m = 11 → -10 ≤ j → (∃ E, srOk (nrF w h X Y e b) E L) → (L.length : Int) ≤ (i + 10) * 21 + (j + 10) → (∀ x ∈ L, 0 ≤ nrF w h X Y e b x ∧ nrF w h X Y e b x ≤ 115200) → NR w h X Y e b L hm → (∀ h' L', Fr [(0, 34)] [17, 18, 19] hm h' → L' = (nmR g i j m).foldl (insF (nrF w h X Y e b)) L → (∃ E, srOk (nrF w h X Y e b) E L') → (L'.length : Int) ≤ (i + 10) * 21 + 21 → (∀ x ∈ L', 0 ≤ nrF w h X Y e b x ∧ nrF w h X Y e b x ≤ 115200) → NR w h X Y e b L' h' → Rn wM G 4 q_M_layNear 8 [some (.ref 0), some (.int (zI b)), some (.int (zI e)), some (.int (zI (i + 1))), none, none, none] [] h' (rV F)) → Rn wM G 4 q_M_layNear 18 [some (.ref 0), some (.int (zI b)), some (.int (zI e)), some (.int (zI i)), some (.int (zI j)), none, none] [] hm (rV F) := by
  intro m
  induction m with
  | zero =>
    intro j L hm H hj hl S hL hbd N K
    have hcn : 10 < zI j := by rw [show (10 : Int32) = zI 10 from by decide, zI_lt (by omega) (by omega)]; omega
    refine w_M_layNear_18 _ _ _ _ ⟨fun _ => ?_, fun c => absurd hcn c⟩
    rw [show zI i + 1 = zI (i + 1) from zI_add i 1]
    exact K hm L Fr.rf rfl S (by omega) hbd N
  | succ m ih =>
    intro j L hm H hj hl S hL hbd N K
    have hcn : ¬ 10 < zI j := by rw [show (10 : Int32) = zI 10 from by decide, zI_lt (by omega) (by omega)]; omega
    refine w_M_layNear_18 _ _ _ _ ⟨fun c => absurd c hcn, fun _ => ?_⟩
    rw [there_m ok.2.2.2.1 hi.1 hi.2 (by omega) (by omega) H.1.2.2.2.1, show zI j + 1 = zI (j + 1) from zI_add j 1]
    refine ⟨fun c => ?_, fun c => ?_⟩
    · have c := (b2_0 _).mp c
      have e1 : nmR g i j (m + 1) = nmR g i (j + 1) m := by
        unfold nmR
        rw [lsUp, c]; rfl
      rw [e1] at K
      exact ih (j + 1) L hm H (by omega) (by omega) S (by omega) hbd N K
    · have c := b2_t c
      have e1 : nmR g i j (m + 1) = (i, j) :: nmR g i (j + 1) m := by
        unfold nmR
        rw [lsUp, c]; rfl
      rw [e1] at K
      obtain ⟨p1, p2⟩ := far_m ok H he hb hi (show -10 ≤ j ∧ j ≤ 10 by omega)
      refine ⟨p1, ?_⟩
      obtain ⟨E, hE⟩ := S
      have bd := nrF_bd ok hb he (i := i) (j := j) hi (by omega)
      rw [p2, N.1, show farI w h X Y e b i j = nrF w h X Y e b (i, j) from rfl]
      refine ln_k ok hb he hi (by omega) hE.1 (by omega) hbd L.length hm (Nat.le_refl _) N.1 (fun s x _ hx => N.2 s x hx) (fun s x s1 hx => ?_) (fun h' f' N' => ?_)
      · have := (List.getElem?_eq_some_iff.mp hx).1; omega
      · refine ih (j + 1) _ h' (H.fr f') (by omega) (by omega) ⟨E ++ [(i, j)], insF_ok _ hE (i, j)⟩ ?_ (fun x hx => ?_) N' (fun h'' L'' f'' => K h'' L'' (f'.tr f''))
        · rw [insF_len _ hE.1]; omega
        · rcases insF_mem hx with rfl | hx
          · exact bd
          · exact hbd x hx
theorem ln_i {G : rx_Gh} {F : rx_Hp → Prop} (ok : HOk nb w h g t X Y A) {b e : Nat} (hb : b < nb) (he : e < nb) : ∀ (m : Nat) (i : Int) (L : List (Int × Int)) (hm : rx_Hp), HM nb w h g t X Y A hm → i + m = 11 → -10 ≤ i → (∃ E, srOk (nrF w h X Y e b) E L) → (L.length : Int) ≤ (i + 10) * 21 → (∀ x ∈ L, 0 ≤ nrF w h X Y e b x ∧ nrF w h X Y e b x ≤ 115200) → NR w h X Y e b L hm → (∀ h', Fr [(0, 34)] [17, 18, 19] hm h' → NR w h X Y e b ((nmE g i m).foldl (insF (nrF w h X Y e b)) L) h' → F h') → Rn wM G 4 q_M_layNear 8 [some (.ref 0), some (.int (zI b)), some (.int (zI e)), some (.int (zI i)), none, none, none] [] hm (rV F) := by
  intro m
  induction m with
  | zero =>
    intro i L hm H hj hl S hL hbd N K
    have hcn : 10 < zI i := by rw [show (10 : Int32) = zI 10 from by decide, zI_lt (by omega) (by omega)]; omega
    exact w_M_layNear_8 _ _ _ ⟨fun _ => K hm Fr.rf N, fun c => absurd hcn c⟩
  | succ m ih =>
    intro i L hm H hj hl S hL hbd N K
    have hcn : ¬ 10 < zI i := by rw [show (10 : Int32) = zI 10 from by decide, zI_lt (by omega) (by omega)]; omega
    refine w_M_layNear_8 _ _ _ ⟨fun c => absurd c hcn, fun _ => ?_⟩
    rw [show (-10 : Int32) = zI (-10) from by decide]
    refine ln_j ok hb he (by omega) 21 (-10) L hm H (by omega) (by omega) S (by omega) hbd N (fun h' L' f' e' S' hL' hbd' N' => ?_)
    refine ih (i + 1) L' h' (H.fr f') (by omega) (by omega) S' (by omega) hbd' N' (fun h'' f'' N'' => ?_)
    refine K h'' (f'.tr f'') ?_
    have e2 : nmE g i (m + 1) = nmR g i (-10) 21 ++ nmE g (i + 1) m := rfl
    rw [e2, List.foldl_append, ← e']
    exact N''
theorem ln_m {G : rx_Gh} {F : rx_Hp → Prop} (ok : HOk nb w h g t X Y A) {b e : Nat} (hb : b < nb) (he : e < nb) {hm : rx_Hp} (H : HM nb w h g t X Y A hm) (K : ∀ h', Fr [(0, 34)] [17, 18, 19] hm h' → NR w h X Y e b (nSrt (nrF w h X Y e b) (nrA g)) h' → F h') : Ev wM G 4 q_M_layNear [.ref 0, .int (zI b), .int (zI e)] hm (rV F) := by
  refine w_M_layNear _ _ ?_
  have fr : Fr [(0, 34)] [17, 18, 19] hm (rx_pf hm 0 34 0) := Fr.rf.pf (by decide)
  rw [show (-10 : Int32) = zI (-10) from by decide]
  refine ln_i ok hb he 21 (-10) [] _ (H.fr fr) (by omega) (by omega) ⟨[], List.Pairwise.nil, fun _ => rfl, fun _ => rfl⟩ (by decide) (fun x hx => by cases hx) ⟨by rw [pf_same]; decide, fun k x hx => by simp at hx⟩ (fun h' f' N => K h' (fr.tr f') ?_)
  rw [nmE_eq] at N; exact N
theorem a_near_m {G : rx_Gh} {hm : rx_Hp} (ok : HOk nb w h g t X Y A) (H : HM nb w h g t X Y A hm) (b e n k : Int32) {F : Int32 → rx_Hp → Prop} (K : ∀ h', Fr [(0, 34)] [17, 18, 19] hm h' → F (A_near nb w h g X Y b e n k) h') : Ev wM G 5 q_M_near [.ref 0, .int b, .int e, .int n, .int k] hm (rI F) := by
  have h6 := ok.1
  have e1 := i_lt n 0 (by omega)
  have e3 : f_M_in k 0 2 = b2 (decide (0 ≤ k.toInt) && decide (k.toInt ≤ 2)) := in_m k (lo := 0) (hi := 2) (by omega) (by omega)
  have no : ¬ (nrI nb b e k = true ∧ 0 ≤ n.toInt) → F (-100000000) hm := fun h => by
    have K := K hm Fr.rf
    unfold A_near at K; rw [if_neg h] at K; exact K
  refine w_M_near b e n k ?_
  rw [isB_m h6 H.1.1, isB_m h6 H.1.1, e3]
  refine ⟨fun c => no (by unfold nrI; rw [(b2_0 _).mp c]; simp), fun c1 => ⟨fun c => no (by unfold nrI; rw [(b2_0 _).mp c]; simp), fun c2 => ⟨fun c => no (by have := e1.mp c; omega), fun c3 => ⟨fun c => no (by unfold nrI; rw [(b2_0 _).mp c]; simp), fun c4 => ?_⟩⟩⟩⟩
  have q1 := b2_t c1
  have q2 := b2_t c2
  have q3 := mtn e1 c3
  have q4 := b2_t c4
  have hI : nrI nb b e k = true := by unfold nrI; rw [q1, q2, q4]; rfl
  unfold A_near at K
  rw [if_pos ⟨hI, by omega⟩] at K
  obtain ⟨b', k1, rfl⟩ := isB_of q1
  obtain ⟨e', k2, rfl⟩ := isB_of q2
  rw [zI_back (by omega), zI_back (by omega)] at K
  refine ln_m ok k1 k2 H (fun h' f' N => ?_)
  have K := K h' f'
  have so := nSrt_ok (nrF w h X Y e' b') (nrA g)
  have sl := srt_len _ so
  rw [nrA_len] at sl
  have l1 := lnC_le (g % 4)
  have l2 := lnC_le (g / 4)
  have l3 : lnC (g % 4) * lnC (g / 4) ≤ 21 * 21 := Nat.mul_le_mul l1.2 l2.2
  have e2 := i_lt n ((nSrt (nrF w h X Y e' b') (nrA g)).length : Nat) (by omega)
  rw [N.1]
  refine ⟨fun c => ?_, fun c => ?_⟩
  · have c := e2.mp c
    have hn := zI_N (x := n) (by omega)
    obtain ⟨k', hk⟩ : ∃ k : Nat, n.toInt.toNat = k := ⟨_, rfl⟩
    rw [hk] at hn K
    have hx0 : k' < (nSrt (nrF w h X Y e' b') (nrA g)).length := by omega
    obtain ⟨x, hx⟩ : ∃ x, (nSrt (nrF w h X Y e' b') (nrA g))[k']? = some x := ⟨_, List.getElem?_eq_getElem hx0⟩
    obtain ⟨g1, g2, g3⟩ := N.2 k' x hx
    rw [hx] at K
    simp only at K
    unfold nrX at K
    rw [hn, zI_cN (by omega), g1, g2, g3]
    have vp : vp_in (zI (k' : Int)) 441 := vp_N (by omega) (by omega)
    refine ⟨fun d => ⟨vp, ?_⟩, fun d => ⟨fun d2 => ⟨vp, ?_⟩, fun d2 => ⟨vp, ?_⟩⟩⟩
    · rw [if_pos d] at K; exact K
    · rw [if_neg d, if_pos d2] at K; exact K
    · rw [if_neg d, if_neg d2] at K; exact K
  · have c := mtn e2 c
    rw [List.getElem?_eq_none (by omega)] at K
    exact K
theorem a_within_m {G : rx_Gh} {hm : rx_Hp} (ok : HOk nb w h g t X Y A) (H : HM nb w h g t X Y A hm) (b e k : Int32) {F : Int32 → rx_Hp → Prop} (K : ∀ h', Fr [(0, 34)] [17, 18, 19] hm h' → F (A_within nb w h g X Y b e k) h') : Ev wM G 5 q_M_within [.ref 0, .int b, .int e, .int k] hm (rI F) := by
  have h6 := ok.1
  have e3 : f_M_in k 0 99 = b2 (decide (0 ≤ k.toInt) && decide (k.toInt ≤ 99)) := in_m k (lo := 0) (hi := 99) (by omega) (by omega)
  have no : wiI nb b e k = false → F (-1) hm := fun h => by
    have K := K hm Fr.rf
    unfold A_within at K; rw [if_neg (by rw [h]; simp)] at K; exact K
  refine w_M_within b e k ?_
  rw [isB_m h6 H.1.1, isB_m h6 H.1.1, e3]
  refine ⟨fun c => no (by unfold wiI; rw [(b2_0 _).mp c]; rfl), fun c1 => ⟨fun c => no (by unfold wiI; rw [(b2_0 _).mp c]; simp), fun c2 => ⟨fun c => no (by unfold wiI; rw [(b2_0 _).mp c]; simp), fun c4 => ?_⟩⟩⟩
  have q1 := b2_t c1
  have q2 := b2_t c2
  have q4 := b2_t c4
  have hI : wiI nb b e k = true := by unfold wiI; rw [q1, q2, q4]; rfl
  simp only [Bool.and_eq_true, decide_eq_true_eq] at q4
  unfold A_within at K
  rw [if_pos hI] at K
  obtain ⟨b', k1, rfl⟩ := isB_of q1
  obtain ⟨e', k2, rfl⟩ := isB_of q2
  rw [zI_back (by omega), zI_back (by omega)] at K
  refine ln_m ok k1 k2 H (fun h' f' N => ?_)
  have K := K h' f'
  have so := nSrt_ok (nrF w h X Y e' b') (nrA g)
  have sl := srt_len _ so
  rw [nrA_len] at sl
  have l1 := lnC_le (g % 4)
  have l2 := lnC_le (g / 4)
  have l3 : lnC (g % 4) * lnC (g / 4) ≤ 21 * 21 := Nat.mul_le_mul l1.2 l2.2
  have sq := sq99 q4.1 q4.2
  have hk : k * k = zI (k.toInt * k.toInt) := by rw [← zI_mul, zI_self]
  have bdL : ∀ x ∈ nSrt (nrF w h X Y e' b') (nrA g), 0 ≤ nrF w h X Y e' b' x ∧ nrF w h X Y e' b' x ≤ 115200 := by
    intro x hx
    have c1 := so.2.2 (fun y => decide (0 ≤ nrF w h X Y e' b' y ∧ nrF w h X Y e' b' y ≤ 115200))
    have c2 : (nrA g).countP (fun y => decide (0 ≤ nrF w h X Y e' b' y ∧ nrF w h X Y e' b' y ≤ 115200)) = (nrA g).length := List.countP_eq_length.mpr (fun y hy => by simpa using nrA_bd ok k1 k2 y hy)
    rw [c2, ← srt_len _ so] at c1
    have := List.countP_eq_length.mp c1 x hx
    simpa using this
  have lp : ∀ (m n : Nat), n + m = (nSrt (nrF w h X Y e' b') (nrA g)).length → (∀ s x, s < n → (nSrt (nrF w h X Y e' b') (nrA g))[s]? = some x → nrF w h X Y e' b' x ≤ k.toInt * k.toInt) → Rn wM G 5 q_M_within 37 [some (.ref 0), none, none, some (.int k), some (.int (zI n))] [] h' (rI F) := by
    have fin : ∀ n, n ≤ (nSrt (nrF w h X Y e' b') (nrA g)).length → (∀ s x, s < n → (nSrt (nrF w h X Y e' b') (nrA g))[s]? = some x → nrF w h X Y e' b' x ≤ k.toInt * k.toInt) → (∀ x, (nSrt (nrF w h X Y e' b') (nrA g))[n]? = some x → k.toInt * k.toInt < nrF w h X Y e' b' x) → F (zI n) h' := by
      intro n hn a1 a2
      have := srt_pre _ so.1 (k.toInt * k.toInt) a1 hn a2
      rw [so.2.2] at this
      unfold nrC at K
      rw [this] at K; exact K
    intro m
    induction m with
    | zero =>
      intro n hn hs
      have hcn : h'.1 0 34 ≤ zI (n : Int) := by rw [N.1, zI_le (by omega) (by omega)]; omega
      refine w_M_within_37 _ _ ⟨fun _ => fin n (by omega) hs (fun x hx => ?_), fun c => absurd hcn c⟩
      have := (List.getElem?_eq_some_iff.mp hx).1; omega
    | succ m ih =>
      intro n hn hs
      have hcn : ¬ h'.1 0 34 ≤ zI (n : Int) := by rw [N.1, zI_le (by omega) (by omega)]; omega
      obtain ⟨x, hx⟩ : ∃ x, (nSrt (nrF w h X Y e' b') (nrA g))[n]? = some x := ⟨_, List.getElem?_eq_getElem (by omega)⟩
      have bx := bdL x (List.mem_of_getElem? hx)
      refine w_M_within_37 _ _ ⟨fun c => absurd c hcn, fun _ => ⟨vp_N (by omega) (by omega), ?_⟩⟩
      rw [hk, zI_cN (by omega), (N.2 n x hx).2.2, zI_lt (by omega) (by omega), show zI (n : Int) + 1 = zI ((n + 1 : Nat) : Int) from zI_add n 1]
      refine ⟨fun c => fin n (by omega) hs (fun y hy => ?_), fun c => ih (n + 1) (by omega) (fun s y s1 hy => ?_)⟩
      · rw [hx] at hy; have := Option.some.inj hy; subst this; exact c
      · by_cases q : s = n
        · subst q; rw [hx] at hy; have := Option.some.inj hy; subst this; omega
        · exact hs s y (by omega) hy
  exact lp _ 0 (by rw [Nat.zero_add]) (fun s x s1 => absurd s1 (Nat.not_lt_zero s))
end NRM

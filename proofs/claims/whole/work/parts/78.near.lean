/-! near, within: the class's halving, its search, the answers -/
section NRC
variable {nb w h g t : Nat} {X Y A : Nat → Nat}
theorem nrA_len (g : Nat) : (nrA g).length = lnC (g % 4) * lnC (g / 4) := by
  unfold nrA nrE
  refine lsUp_len _ _ (fun k _ _ => ?_)
  unfold nrR
  rw [lsUp_len (c := 1) _ _ (fun _ _ _ => rfl), Nat.mul_one]
theorem lnC_le (p : Nat) : 1 ≤ lnC p ∧ lnC p ≤ 21 := by
  have := loC_bd p
  have := hiC_bd p
  unfold lnC; omega
theorem fn_c {G : rx_Gh} {F : Int32 → rx_Hp → Prop} (ok : HOk nb w h g t X Y A) {b e : Nat} (hb : b < nb) (he : e < nb) {hc : rx_Hp} (M : MS w h g X Y e b hc) {n : Nat} (hn : n < 441) (K : ∀ V : Int, 0 ≤ V → V ≤ 131072 → nrC w h g X Y e b (V - 1) (nrA g) ≤ n → n < nrC w h g X Y e b V (nrA g) → F (zI V) hc) : ∀ (m k : Nat) (lo hi : Int), k + m = 18 → 0 ≤ lo → lo ≤ hi → hi ≤ 131072 → hi - lo < ((2 ^ m : Nat) : Int) → nrC w h g X Y e b (lo - 1) (nrA g) ≤ n → n < nrC w h g X Y e b hi (nrA g) → Rn wC G 2 q_Di_farOfNth 8 [some (.ref 40), some (.int (zI n)), some (.int (zI lo)), some (.int (zI hi)), some (.int (zI k)), none] [] hc (rI F) := by
  intro m
  induction m with
  | zero =>
    intro k lo hi hk h1 h2 h3 h4 h5 h6
    have hz : ((2 ^ 0 : Nat) : Int) = 1 := rfl
    rw [hz] at h4
    have he2 : lo = hi := by omega
    subst he2
    have c1 : ¬ 32 ≤ zI (k : Int) := by rw [show (32 : Int32) = zI 32 from by decide, zI_le (by omega) (by omega)]; omega
    exact w_Di_farOfNth_8 _ _ _ _ ⟨fun c => absurd c c1, fun _ => ⟨fun _ => K lo h1 h3 h5 h6, fun c => absurd ((zI_le (by omega) (by omega)).mpr (Int.le_refl _)) c⟩⟩
  | succ m ih =>
    intro k lo hi hk h1 h2 h3 h4 h5 h6
    have c1 : ¬ 32 ≤ zI (k : Int) := by rw [show (32 : Int32) = zI 32 from by decide, zI_le (by omega) (by omega)]; omega
    refine w_Di_farOfNth_8 _ _ _ _ ⟨fun c => absurd c c1, fun _ => ⟨fun c => ?_, fun c => ?_⟩⟩
    · have c := (zI_le (by omega) (by omega)).mp c
      have he2 : lo = hi := by omega
      subst he2
      exact K lo h1 h3 h5 h6
    · have c := mtn (zI_le (a := hi) (b := lo) (by omega) (by omega)) c
      have hp : ((2 ^ (m + 1) : Nat) : Int) = 2 * ((2 ^ m : Nat) : Int) := by rw [Nat.pow_succ]; omega
      rw [hp] at h4
      have em : (zI lo + zI hi) / 2 = zI ((lo + hi) / 2) := by
        rw [zI_add, show (2 : Int32) = zI 2 from by decide, zI_div (by omega) (by omega), Int.tdiv_eq_ediv_of_nonneg (by omega)]
      rw [em]
      refine ut_c ok hb he M (v := (lo + hi) / 2) (by omega) ?_
      rw [show zI (k : Int) + 1 = zI ((k + 1 : Nat) : Int) from zI_add k 1, show zI ((lo + hi) / 2) + 1 = zI ((lo + hi) / 2 + 1) from zI_add _ 1]
      have cb : nrC w h g X Y e b ((lo + hi) / 2) (nrA g) ≤ 441 := by
        have l1 := lnC_le (g % 4)
        have l2 := lnC_le (g / 4)
        have := List.countP_le_length (p := (fun x => decide (nrF w h X Y e b x ≤ (lo + hi) / 2))) (l := nrA g)
        rw [nrA_len] at this
        have l3 : lnC (g % 4) * lnC (g / 4) ≤ 21 * 21 := Nat.mul_le_mul l1.2 l2.2
        unfold nrC; omega
      have q0 := zI_le (a := ((nrC w h g X Y e b ((lo + hi) / 2) (nrA g) : Nat) : Int)) (b := (n : Int)) (by omega) (by omega)
      by_cases q : nrC w h g X Y e b ((lo + hi) / 2) (nrA g) ≤ n
      · rw [if_pos (q0.mpr (by omega)), if_pos (q0.mpr (by omega))]
        refine ih (k + 1) ((lo + hi) / 2 + 1) hi (by omega) (by omega) (by omega) h3 (by omega) ?_ h6
        rw [show (lo + hi) / 2 + 1 - 1 = (lo + hi) / 2 by omega]; exact q
      · rw [if_neg (fun z => q (by have := q0.mp z; omega)), if_neg (fun z => q (by have := q0.mp z; omega))]
        exact ih (k + 1) lo ((lo + hi) / 2) (by omega) h1 (by omega) (by omega) (by omega) h5 (by omega)
theorem fd_j {G : rx_Gh} {F : Int32 → rx_Hp → Prop} (ok : HOk nb w h g t X Y A) {b e : Nat} (hb : b < nb) (he : e < nb) {hc : rx_Hp} (M : MS w h g X Y e b hc) {V : Int} (hV : 0 ≤ V ∧ V ≤ 131072) (hf : hc.1 40 9 = zI V) {x : Int × Int} (K : F 1 (rx_pf (rx_pf hc 40 7 (zI x.1)) 40 8 (zI x.2))) {i : Int} (hi : loC (g % 4) ≤ i ∧ i ≤ hiC (g % 4)) {R : List (Int × Int)} (next : ∀ ρ : Nat, ρ ≤ 1000 → (R.filter (fun y => decide (nrF w h X Y e b y = V)))[ρ]? = some x → Rn wC G 3 q_Di_findNth 60 [some (.ref 40), none, some (.int (zI ρ)), some (.int (zI (i + 1))), none] [] hc (rI F)) : ∀ (m : Nat) (j : Int) (ρ : Nat), ρ ≤ 1000 → j + m = hiC (g / 4) + 1 → loC (g / 4) ≤ j → ((nrR g i j m ++ R).filter (fun y => decide (nrF w h X Y e b y = V)))[ρ]? = some x → Rn wC G 3 q_Di_findNth 74 [some (.ref 40), none, some (.int (zI ρ)), some (.int (zI i)), some (.int (zI j))] [] hc (rI F) := by
  have b1 := loC_bd (g % 4)
  have b2 := hiC_bd (g % 4)
  have b3 := loC_bd (g / 4)
  have b4 := hiC_bd (g / 4)
  intro m
  induction m with
  | zero =>
    intro j ρ hρ hj hl hx
    have hcn : hc.1 40 6 < zI j := by rw [M.1.2.2.2, zI_lt (by omega) (by omega)]; omega
    refine w_Di_findNth_74 _ _ _ ⟨fun _ => ?_, fun c => absurd hcn c⟩
    rw [show zI i + 1 = zI (i + 1) from zI_add i 1]
    exact next ρ hρ hx
  | succ m ih =>
    intro j ρ hρ hj hl hx
    have hcn : ¬ hc.1 40 6 < zI j := by rw [M.1.2.2.2, zI_lt (by omega) (by omega)]; omega
    have bd := nrF_bd ok hb he (i := i) (j := j) (by omega) (by omega)
    refine w_Di_findNth_74 _ _ _ ⟨fun c => absurd c hcn, fun _ => ?_⟩
    unfold p_Di_farAt f_Di_farAt
    rw [show zI j + 10 = zI (j + 10) from zI_add j 10, show zI j + 1 = zI (j + 1) from zI_add j 1, show zI i + 10 = zI (i + 10) from zI_add i 10, zI_clamp (by omega) (by omega), zI_clamp (by omega) (by omega), M.2.2 j hl (by omega), M.2.1 i hi.1 hi.2, zI_add, hf, ← nrF_eq, zI_eq (by omega) (by omega)]
    rw [nrR_cons, List.cons_append] at hx
    refine ⟨⟨vp_in_zI (by omega) (by omega) (by omega), vp_in_zI (by omega) (by omega) (by omega)⟩, fun c => ?_, fun c => ?_⟩
    · rw [List.filter_cons_of_pos (by simpa using c)] at hx
      cases ρ with
      | zero =>
        have hx : (i, j) = x := by simpa using hx
        subst hx
        exact ⟨fun _ => K, fun c => absurd (by decide) c⟩
      | succ ρ =>
        refine ⟨fun c => ?_, fun _ => ?_⟩
        · have := (z0_iff (by omega)).mp c; omega
        · rw [show zI ((ρ + 1 : Nat) : Int) + (-1) = zI (ρ : Int) from by rw [show (-1 : Int32) = zI (-1) from by decide, zI_add]; congr 1; omega]
          exact ih (j + 1) ρ (by omega) (by omega) (by omega) hx
    · rw [List.filter_cons_of_neg (by simpa using c)] at hx
      exact ih (j + 1) ρ hρ (by omega) (by omega) hx
theorem fd_i {G : rx_Gh} {F : Int32 → rx_Hp → Prop} (ok : HOk nb w h g t X Y A) {b e : Nat} (hb : b < nb) (he : e < nb) {hc : rx_Hp} (M : MS w h g X Y e b hc) {V : Int} (hV : 0 ≤ V ∧ V ≤ 131072) (hf : hc.1 40 9 = zI V) {x : Int × Int} (K : F 1 (rx_pf (rx_pf hc 40 7 (zI x.1)) 40 8 (zI x.2))) : ∀ (m : Nat) (i : Int) (ρ : Nat), ρ ≤ 1000 → i + m = hiC (g % 4) + 1 → loC (g % 4) ≤ i → ((nrE g i m).filter (fun y => decide (nrF w h X Y e b y = V)))[ρ]? = some x → Rn wC G 3 q_Di_findNth 60 [some (.ref 40), none, some (.int (zI ρ)), some (.int (zI i)), none] [] hc (rI F) := by
  have b1 := loC_bd (g % 4)
  have b2 := hiC_bd (g % 4)
  intro m
  induction m with
  | zero =>
    intro i ρ hρ hi hl hx
    have hx : ([] : List (Int × Int))[ρ]? = some x := hx
    simp at hx
  | succ m ih =>
    intro i ρ hρ hi hl hx
    have hcn : ¬ hc.1 40 4 < zI i := by rw [M.1.2.1, zI_lt (by omega) (by omega)]; omega
    refine w_Di_findNth_60 _ _ ⟨fun c => absurd c hcn, fun _ => ?_⟩
    rw [M.1.2.2.1]
    have ln := lnC_z (g / 4)
    rw [nrE_cons] at hx
    exact fd_j ok hb he M hV hf K (by omega) (fun ρ hρ hx => ih (i + 1) ρ hρ (by omega) (by omega) hx) (lnC (g / 4)) (loC (g / 4)) ρ hρ (by omega) (by omega) hx
theorem fnd_c {G : rx_Gh} {F : Int32 → rx_Hp → Prop} (ok : HOk nb w h g t X Y A) {b e : Nat} (hb : b < nb) (he : e < nb) {hc : rx_Hp} (M : MS w h g X Y e b hc) (n : Int32) (K0 : (∀ k : Nat, n = zI k → (nSrt (nrF w h X Y e b) (nrA g))[k]? = none) → F 0 hc) (K1 : ∀ (k : Nat) (x : Int × Int) (h' : rx_Hp), n = zI k → (nSrt (nrF w h X Y e b) (nrA g))[k]? = some x → Fr diF [41, 42] hc h' → h'.1 40 7 = zI x.1 → h'.1 40 8 = zI x.2 → h'.1 40 9 = zI (nrF w h X Y e b x) → F 1 h') : Ev wC G 3 q_Di_findNth [.ref 40, .int n] hc (rI F) := by
  have l1 := lnC_le (g % 4)
  have l2 := lnC_le (g / 4)
  have l3 : lnC (g % 4) * lnC (g / 4) ≤ 21 * 21 := Nat.mul_le_mul l1.2 l2.2
  have z1 := lnC_z (g % 4)
  have z2 := lnC_z (g / 4)
  have so := nSrt_ok (nrF w h X Y e b) (nrA g)
  have sl := srt_len _ so
  rw [nrA_len] at sl
  have eN : ((hc.1 40 4 - hc.1 40 3) + 1) * ((hc.1 40 6 - hc.1 40 5) + 1) = zI ((lnC (g % 4) * lnC (g / 4) : Nat) : Int) := by
    rw [M.1.1, M.1.2.1, M.1.2.2.1, M.1.2.2.2, show (1 : Int32) = zI 1 from by decide, zI_sub, zI_sub, zI_add, zI_add, zI_mul, show hiC (g % 4) - loC (g % 4) + 1 = (lnC (g % 4) : Int) by omega, show hiC (g / 4) - loC (g / 4) + 1 = (lnC (g / 4) : Int) by omega, Int.natCast_mul]
  refine w_Di_findNth _ ?_
  rw [eN]
  have e1 := i_lt n 0 (by omega)
  have e2 := i_lt n ((lnC (g % 4) * lnC (g / 4) : Nat) : Int) (by omega)
  refine ⟨fun c => K0 (fun k hk => ?_), fun c => ⟨fun c2 => ?_, fun c2 => K0 (fun k hk => ?_)⟩⟩
  · have c := e1.mp c
    rw [List.getElem?_eq_none_iff, sl]
    by_cases q : k < 441
    · rw [hk, zI_toInt (by omega) (by omega)] at c; omega
    · omega
  · have c := mtn e1 c
    have c2 := e2.mp c2
    have hn := zI_N (x := n) (by omega)
    obtain ⟨k, hk⟩ : ∃ k : Nat, n.toInt.toNat = k := ⟨_, rfl⟩
    rw [hk] at hn
    have hk2 : k < lnC (g % 4) * lnC (g / 4) := by omega
    have hx0 : k < (nSrt (nrF w h X Y e b) (nrA g)).length := by omega
    obtain ⟨x, hx⟩ : ∃ x, (nSrt (nrF w h X Y e b) (nrA g))[k]? = some x := ⟨_, List.getElem?_eq_getElem hx0⟩
    obtain ⟨a1, a2, a3⟩ := srt_at _ so hx
    have K1 := K1 k x
    subst hn
    refine w_Di_farOfNth _ ?_
    have lastC : nrC w h g X Y e b 131072 (nrA g) = lnC (g % 4) * lnC (g / 4) := by
      unfold nrC
      rw [List.countP_eq_length.mpr (fun y hy => ?_), nrA_len]
      have := nrA_bd ok hb he y hy
      simp; omega
    have firstC : nrC w h g X Y e b (0 - 1) (nrA g) = 0 := by
      unfold nrC
      refine List.countP_eq_zero.mpr (fun y hy => ?_)
      have := nrA_bd ok hb he y hy
      simp; omega
    refine fn_c ok hb he M (by omega) (fun V v1 v2 v3 v4 => ?_) 18 0 0 131072 (by omega) (by omega) (by omega) (by omega) (by decide) (by omega) (by omega)
    have hV : V = nrF w h X Y e b x := by
      rcases Int.lt_trichotomy V (nrF w h X Y e b x) with q | q | q
      · have := cnt_mono (nrF w h X Y e b) (nrA g) (u := V) (v := nrF w h X Y e b x - 1) (by omega)
        unfold nrC at v4; omega
      · exact q
      · have := cnt_mono (nrF w h X Y e b) (nrA g) (u := nrF w h X Y e b x) (v := V - 1) (by omega)
        unfold nrC at v3; omega
    have fr1 : Fr [(40, 9)] [] hc (rx_pf hc 40 9 (zI V)) := Fr.rf.pf (by decide)
    have M1 := M.fr fr1
    rw [show zI V - 1 = zI (V - 1) from zI_sub V 1]
    refine ut_c ok hb he M1 (v := V - 1) (by omega) ?_
    rw [M1.1.1, zI_subN v3]
    refine fd_i ok hb he M1 ⟨v1, v2⟩ (by rw [pf_same]) (x := x) ?_ (lnC (g % 4)) (loC (g % 4)) _ (by omega) (by omega) (by omega) ?_
    · refine K1 _ rfl hx (((Fr.rf.pf (by decide)).pf (by decide)).pf (by decide)) ?_ ?_ ?_
      · rw [pf_ne _ _ (by decide), pf_same]
      · rw [pf_same]
      · rw [pf_ne _ _ (by decide), pf_ne _ _ (by decide), pf_same, hV]
    · rw [← hV] at a3; exact a3
  · have c := mtn e1 c
    have c2 := mtn e2 c2
    rw [List.getElem?_eq_none_iff, sl]
    by_cases q : k < 441
    · rw [hk, zI_toInt (by omega) (by omega)] at c2; omega
    · omega
def nrI (nb : Nat) (b e k : Int32) : Bool := isB nb b && (isB nb e && (decide (0 ≤ k.toInt) && decide (k.toInt ≤ 2)))
def nrX (w h : Nat) (X Y : Nat → Nat) (e b : Nat) (k : Int32) (x : Int × Int) : Int32 := if k = 0 then zI x.1 else if k = 1 then zI x.2 else zI (nrF w h X Y e b x)
def A_near (nb w h g : Nat) (X Y : Nat → Nat) (b e n k : Int32) : Int32 := if nrI nb b e k = true ∧ 0 ≤ n.toInt then (match (nSrt (nrF w h X Y e.toInt.toNat b.toInt.toNat) (nrA g))[n.toInt.toNat]? with | some x => nrX w h X Y e.toInt.toNat b.toInt.toNat k x | none => -100000000) else -100000000
theorem a_near_c {G : rx_Gh} {hc : rx_Hp} (ok : HOk nb w h g t X Y A) (H : HC nb w h g t X Y A hc) (b e n k : Int32) {F : Int32 → rx_Hp → Prop} (K : ∀ h', Fr diF [41, 42] hc h' → F (A_near nb w h g X Y b e n k) h') : Ev wC G 4 q_GR_near [.ref 0, .int b, .int e, .int n, .int k] hc (rI F) := by
  have h6 := ok.1
  have e1 := i_lt k 0 (by omega)
  have e2 := i_le k 2 (by omega)
  have no : nrI nb b e k = false → F (-100000000) hc := fun h => by
    have K := K hc Fr.rf
    unfold A_near at K; rw [if_neg (by rw [h]; simp)] at K; exact K
  refine w_GR_near b e n k ?_
  rw [has_c h6 H.1.1, has_c h6 H.1.1]
  refine ⟨fun c => no (by unfold nrI; rw [(b2_0 _).mp c]; rfl), fun c1 => ⟨fun c => no (by unfold nrI; rw [(b2_0 _).mp c]; simp), fun c2 => ⟨fun c => no ?_, fun c3 => ⟨fun c4 => ?_, fun c => no ?_⟩⟩⟩⟩
  · have := e1.mp c; unfold nrI; simp; omega
  · have q1 := b2_t c1
    have q2 := b2_t c2
    have q3 := mtn e1 c3
    have q4 := e2.mp c4
    have hI : nrI nb b e k = true := by unfold nrI; rw [q1, q2]; simp; omega
    unfold A_near at K
    obtain ⟨b', k1, rfl⟩ := isB_of q1
    obtain ⟨e', k2, rfl⟩ := isB_of q2
    rw [hI, zI_back (by omega), zI_back (by omega)] at K
    refine ms_c ok k1 k2 H (fun h1 f1 M => fnd_c ok k1 k2 M n (fun hn => ?_) (fun n' x h2 hn hx f2 g1 g2 g3 => ?_))
    · refine ⟨fun _ => ?_, fun c => absurd rfl c⟩
      have K := K h1 f1
      by_cases q : 0 ≤ n.toInt
      · rw [if_pos ⟨rfl, q⟩, hn n.toInt.toNat (zI_N q)] at K; exact K
      · rw [if_neg (fun z => q z.2)] at K; exact K
    · refine ⟨fun c => absurd c (by decide), fun _ => ?_⟩
      have K := K h2 (f1.tr f2)
      have hlt := (List.getElem?_eq_some_iff.mp hx).1
      have so := nSrt_ok (nrF w h X Y e' b') (nrA g)
      have sl := srt_len _ so
      rw [nrA_len] at sl
      have l1 := lnC_le (g % 4)
      have l2 := lnC_le (g / 4)
      have l3 : lnC (g % 4) * lnC (g / 4) ≤ 21 * 21 := Nat.mul_le_mul l1.2 l2.2
      rw [hn, zI_back (by omega), zI_toInt (by omega) (by omega), if_pos ⟨rfl, by omega⟩, hx] at K
      simp only at K
      unfold nrX at K
      rw [g1, g2, g3]
      refine ⟨fun c => ?_, fun c => ?_⟩
      · rw [if_pos c] at K; exact K
      · rw [if_neg c] at K; exact K
  · have := mtn e2 c; unfold nrI; simp; omega
def wiI (nb : Nat) (b e k : Int32) : Bool := isB nb b && (isB nb e && (decide (0 ≤ k.toInt) && decide (k.toInt ≤ 99)))
def A_within (nb w h g : Nat) (X Y : Nat → Nat) (b e k : Int32) : Int32 := if wiI nb b e k = true then zI (nrC w h g X Y e.toInt.toNat b.toInt.toNat (k.toInt * k.toInt) (nrA g) : Nat) else -1
theorem sq99 {z : Int} (h1 : 0 ≤ z) (h2 : z ≤ 99) : 0 ≤ z * z ∧ z * z ≤ 9801 := ⟨Int.mul_nonneg h1 h1, Int.mul_le_mul h2 h2 h1 (by omega)⟩
theorem a_within_c {G : rx_Gh} {hc : rx_Hp} (ok : HOk nb w h g t X Y A) (H : HC nb w h g t X Y A hc) (b e k : Int32) {F : Int32 → rx_Hp → Prop} (K : ∀ h', Fr diF [41, 42] hc h' → F (A_within nb w h g X Y b e k) h') : Ev wC G 4 q_GR_within [.ref 0, .int b, .int e, .int k] hc (rI F) := by
  have h6 := ok.1
  have e1 := i_lt k 0 (by omega)
  have e2 := i_le k 99 (by omega)
  have no : wiI nb b e k = false → F (-1) hc := fun h => by
    have K := K hc Fr.rf
    unfold A_within at K; rw [if_neg (by rw [h]; simp)] at K; exact K
  refine w_GR_within b e k ?_
  rw [has_c h6 H.1.1, has_c h6 H.1.1]
  refine ⟨fun c => no (by unfold wiI; rw [(b2_0 _).mp c]; rfl), fun c1 => ⟨fun c => no (by unfold wiI; rw [(b2_0 _).mp c]; simp), fun c2 => ⟨fun c => no ?_, fun c3 => ⟨fun c4 => ?_, fun c => no ?_⟩⟩⟩⟩
  · have := e1.mp c; unfold wiI; simp; omega
  · have q1 := b2_t c1
    have q2 := b2_t c2
    have q3 := mtn e1 c3
    have q4 := e2.mp c4
    have hI : wiI nb b e k = true := by unfold wiI; rw [q1, q2]; simp; omega
    unfold A_within at K
    rw [if_pos hI] at K
    obtain ⟨b', k1, rfl⟩ := isB_of q1
    obtain ⟨e', k2, rfl⟩ := isB_of q2
    rw [zI_back (by omega), zI_back (by omega)] at K
    have hk : k * k = zI (k.toInt * k.toInt) := by rw [← zI_mul, zI_self]
    have sq := sq99 (z := k.toInt) (by omega) (by omega)
    rw [hk]
    exact ms_c ok k1 k2 H (fun h1 f1 M => ut_c ok k1 k2 M (by omega) (K h1 f1))
  · have := mtn e2 c; unfold wiI; simp; omega
end NRC

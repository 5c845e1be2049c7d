/-! a hall as a text: the model's reader -/
theorem it_r : ∀ b : Fin 256, f_M_itemOf (zI 114) (zM (b : Nat)) = (match itm 0 4 (b : Nat) with | some k => zI (k : Nat) | none => -1) := by decide +kernel
theorem it_b : ∀ b : Fin 256, f_M_itemOf (zI 98) (zM (b : Nat)) = (match itm 4 3 (b : Nat) with | some k => zI ((k - 4 : Nat) : Int) | none => -1) := by decide +kernel
theorem us_r : ∀ k : Fin 4, f_M_usual (zI 114) (zI (k : Nat)) = zI (lsU (0 + (k : Nat)) : Nat) := by decide +kernel
theorem us_b : ∀ k : Fin 3, f_M_usual (zI 98) (zI (k : Nat)) = zI (lsU (4 + (k : Nat)) : Nat) := by decide +kernel
theorem hi_r : ∀ k : Fin 4, f_M_highest (zI 114) (zI (k : Nat)) = zI (lsM (0 + (k : Nat)) : Nat) ∧ ((if zI 114 = 114 then ((if 2 ≤ zI (k : Nat) then 0 else 1) : Int32) else 0) : Int32) = zI (lsL (0 + (k : Nat)) : Nat) := by decide +kernel
theorem hi_b : ∀ k : Fin 3, f_M_highest (zI 98) (zI (k : Nat)) = zI (lsM (4 + (k : Nat)) : Nat) ∧ ((if zI 98 = 114 then ((if 2 ≤ zI (k : Nat) then 0 else 1) : Int32) else 0) : Int32) = zI (lsL (4 + (k : Nat)) : Nat) := by decide +kernel
theorem gv_r : ∀ (t : Fin 128) (k : Fin 4), f_M_has (zI ((t : Nat) / 2 ^ 0 : Nat)) (zI (k : Nat)) = b2 ((t : Nat).testBit (0 + (k : Nat))) ∧ (zI ((t : Nat) / 2 ^ 0 : Nat) ||| (1 <<< (zI (k : Nat) &&& 31))) = zI ((((t : Nat) ||| (1 <<< (0 + (k : Nat)))) / 2 ^ 0 : Nat) : Int) := by decide +kernel
theorem gv_b : ∀ (t : Fin 128) (k : Fin 3), f_M_has (zI ((t : Nat) / 2 ^ 4 : Nat)) (zI (k : Nat)) = b2 ((t : Nat).testBit (4 + (k : Nat))) ∧ (zI ((t : Nat) / 2 ^ 4 : Nat) ||| (1 <<< (zI (k : Nat) &&& 31))) = zI ((((t : Nat) ||| (1 <<< (4 + (k : Nat)))) / 2 ^ 4 : Nat) : Int) := by decide +kernel
section HLM
variable {n : Nat} {tb : Nat → Nat}
theorem bad_m {p : Nat} {hm : rx_Hp} (T : AtM n tb p hm) (hw : hm.1 0 4 = -1) : (g_M_bad hm).1 0 4 = zI p ∧ Fr [(0, 4)] [] hm (g_M_bad hm) := by
  unfold g_M_bad
  refine ⟨?_, Fr.rf.pf (by decide)⟩
  rw [pf_same, if_pos hw, T.2]
def nuF : List (Nat × Nat) := [(0, 3), (0, 4)]
theorem nu_m {G : rx_Gh} {F : Int32 → rx_Hp → Prop} (ok : TOk n tb) {lo hi p : Nat} (hlo : lo ≤ 99) (hhi : hi ≤ 99) {hm : rx_Hp} (hp : p ≤ n) (T : AtM n tb p hm) (hw : hm.1 0 4 = -1) (Kl : ∀ e r h', numR n tb lo hi p = .inl e → h'.1 0 4 = zI e → Fr nuF [] hm h' → F r h') (Kr : ∀ p' u h', numR n tb lo hi p = .inr (p', u) → AtM n tb p' h' → h'.1 0 4 = -1 → Fr nuF [] hm h' → F (zI u) h') : Ev wM G 3 q_M_number [.ref 0, .int (zI lo), .int (zI hi)] hm (rI F) := by
  have o1 := ok.1
  have s2 := sk_le (tb := tb) hp
  refine w_M_number _ _ (look_m ok hp T (fun h1 T1 f1 => ?_))
  have fr1 : Fr nuF [] hm h1 := f1.mono (by decide) (by decide)
  have w1 : h1.1 0 4 = -1 := (f1.1 _ _ (by decide)).trans hw
  rw [dg_m ok]
  unfold numR numA at Kl Kr
  by_cases d1 : dgB n tb (sk n tb p) = true
  case neg =>
    rw [if_neg d1] at Kl
    obtain ⟨b1, b2'⟩ := bad_m T1 w1
    refine ⟨fun _ => Kl _ _ _ rfl b1 (fr1.tr (b2'.mono (by decide) (by decide))), fun c => absurd (b2_t c) d1⟩
  case pos =>
    rw [if_pos d1] at Kl Kr
    obtain ⟨y1, y2, y3, y4, y5⟩ := dg_ch d1
    have T2 : AtM n tb (sk n tb p + 1) (rx_pf h1 0 3 (h1.1 0 3 + 1)) := T1.to (by rw [T1.2]; exact zI_add _ 1)
    have fr2 : Fr nuF [] hm (rx_pf h1 0 3 (h1.1 0 3 + 1)) := fr1.pf (by decide)
    obtain ⟨p1, p2⟩ := here_m ok s2 T1
    obtain ⟨p3, p4⟩ := here_m ok (by omega) T2
    refine ⟨fun c => absurd ((b2_0 _).mp c) (by rw [d1]; decide), fun _ => ⟨p1, p3, ?_⟩⟩
    rw [p2, p4, dg_m ok, y5]
    have e48 : zI (tb (sk n tb p) : Nat) - 48 = zI ((10 * 0 + (tb (sk n tb p) - 48) : Nat) : Int) := by
      rw [show (48 : Int32) = zI 48 from by decide, zI_sub]; congr 1; omega
    have n1 : nmF n tb 2 (sk n tb p) 0 = nmF n tb 1 (sk n tb p + 1) (10 * 0 + (tb (sk n tb p) - 48)) := by
      conv => lhs; unfold nmF
      rw [if_pos d1]
    rw [n1] at Kl Kr
    obtain ⟨v1, hv1⟩ : ∃ v1, 10 * 0 + (tb (sk n tb p) - 48) = v1 := ⟨_, rfl⟩
    rw [hv1] at e48 Kl Kr
    rw [e48]
    have v1b : v1 ≤ 9 := by omega
    have rng : ∀ v : Nat, v ≤ 99 → f_M_in (zI v) (zI lo) (zI hi) = b2 (decide (lo ≤ v ∧ v ≤ hi)) := by
      intro v hv
      rw [in_m (zI v) (lo := (lo : Int)) (hi := (hi : Int)) (by omega) (by omega), zI_toInt (by omega) (by omega)]
      congr 1
      by_cases q : lo ≤ v ∧ v ≤ hi
      · rw [decide_eq_true (show (lo : Int) ≤ v by omega), decide_eq_true (show (v : Int) ≤ hi by omega), decide_eq_true q]; rfl
      · rw [decide_eq_false q]
        simp only [Bool.and_eq_false_iff, decide_eq_false_iff_not]; omega
    by_cases d2 : dgB n tb (sk n tb p + 1) = true
    case neg =>
      have n2 : nmF n tb 1 (sk n tb p + 1) v1 = .inr (sk n tb p + 1, v1) := by unfold nmF; rw [if_neg d2]
      rw [n2] at Kl Kr
      simp only at Kl Kr
      refine ⟨fun _ => ?_, fun c => absurd (b2_t c) d2⟩
      rw [rng v1 (by omega)]
      refine ⟨fun c => ?_, fun c => ?_⟩
      · have c := (b2_0 _).mp c
        simp only [decide_eq_false_iff_not] at c
        rw [if_neg c, Nat.add_sub_cancel] at Kl
        have T3 : AtM n tb (sk n tb p) (rx_pf (rx_pf h1 0 3 (h1.1 0 3 + 1)) 0 3 (h1.1 0 3 + 1 - 1)) := T2.to (by rw [T1.2, show (1 : Int32) = zI 1 from by decide, zI_add, zI_sub]; congr 1; omega)
        obtain ⟨b1, b2'⟩ := bad_m T3 (by rw [pf_ne _ _ (by decide), pf_ne _ _ (by decide)]; exact w1)
        exact Kl _ _ _ rfl b1 ((fr2.pf (by decide)).tr (b2'.mono (by decide) (by decide)))
      · have c := b2_t c
        simp only [decide_eq_true_eq] at c
        rw [if_pos c] at Kr
        exact Kr _ _ _ rfl T2 (by rw [pf_ne _ _ (by decide)]; exact w1) fr2
    case pos =>
      obtain ⟨x1, x2, x3, x4, x5⟩ := dg_ch d2
      have T3 : AtM n tb (sk n tb p + 1 + 1) (rx_pf (rx_pf h1 0 3 (h1.1 0 3 + 1)) 0 3 (h1.1 0 3 + 1 + 1)) := T2.to (by rw [T1.2, show (1 : Int32) = zI 1 from by decide, zI_add, zI_add]; congr 1)
      have fr3 : Fr nuF [] hm (rx_pf (rx_pf h1 0 3 (h1.1 0 3 + 1)) 0 3 (h1.1 0 3 + 1 + 1)) := fr2.pf (by decide)
      have w3 : (rx_pf (rx_pf h1 0 3 (h1.1 0 3 + 1)) 0 3 (h1.1 0 3 + 1 + 1)).1 0 4 = -1 := by rw [pf_ne _ _ (by decide), pf_ne _ _ (by decide)]; exact w1
      obtain ⟨p5, p6⟩ := here_m ok (by omega) T3
      refine ⟨fun c => absurd ((b2_0 _).mp c) (by rw [d2]; decide), fun _ => ⟨p5, ?_⟩⟩
      rw [p6, dg_m ok, x5]
      have e2 : 10 * zI (v1 : Int) + zI (tb (sk n tb p + 1) : Nat) - 48 = zI ((10 * v1 + (tb (sk n tb p + 1) - 48) : Nat) : Int) := by
        rw [show (10 : Int32) = zI 10 from by decide, show (48 : Int32) = zI 48 from by decide, zI_mul, zI_add, zI_sub]; congr 1; omega
      have n2 : nmF n tb 1 (sk n tb p + 1) v1 = nmF n tb 0 (sk n tb p + 1 + 1) (10 * v1 + (tb (sk n tb p + 1) - 48)) := by
        conv => lhs; unfold nmF
        rw [if_pos d2]
      rw [n2] at Kl Kr
      rw [e2]
      obtain ⟨v2, hv2⟩ : ∃ v2, 10 * v1 + (tb (sk n tb p + 1) - 48) = v2 := ⟨_, rfl⟩
      rw [hv2] at Kl Kr ⊢
      have v2b : v2 ≤ 99 := by omega
      by_cases d3 : dgB n tb (sk n tb p + 1 + 1) = true
      case pos =>
        have n3 : nmF n tb 0 (sk n tb p + 1 + 1) v2 = .inl (sk n tb p + 1 + 1) := by unfold nmF; rw [if_pos d3]
        rw [n3] at Kl
        obtain ⟨b1, b2'⟩ := bad_m T3 w3
        exact ⟨fun c => absurd ((b2_0 _).mp c) (by rw [d3]; decide), fun _ => Kl _ _ _ rfl b1 (fr3.tr (b2'.mono (by decide) (by decide)))⟩
      case neg =>
        have n3 : nmF n tb 0 (sk n tb p + 1 + 1) v2 = .inr (sk n tb p + 1 + 1, v2) := by unfold nmF; rw [if_neg d3]
        rw [n3] at Kl Kr
        simp only at Kl Kr
        refine ⟨fun _ => ?_, fun c => absurd (b2_t c) d3⟩
        rw [rng v2 (by omega)]
        refine ⟨fun c => ?_, fun c => ?_⟩
        · have c := (b2_0 _).mp c
          simp only [decide_eq_false_iff_not] at c
          rw [if_neg c, Nat.add_sub_cancel] at Kl
          have T4 : AtM n tb (sk n tb p + 1) (rx_pf (rx_pf (rx_pf h1 0 3 (h1.1 0 3 + 1)) 0 3 (h1.1 0 3 + 1 + 1)) 0 3 (h1.1 0 3 + 1 + 1 - 1)) := T3.to (by rw [T1.2, show (1 : Int32) = zI 1 from by decide, zI_add, zI_add, zI_sub]; congr 1; omega)
          obtain ⟨b1, b2'⟩ := bad_m T4 (by rw [pf_ne _ _ (by decide)]; exact w3)
          exact Kl _ _ _ rfl b1 ((fr3.pf (by decide)).tr (b2'.mono (by decide) (by decide)))
        · have c := b2_t c
          simp only [decide_eq_true_eq] at c
          rw [if_pos c] at Kr
          exact Kr _ _ _ rfl T3 w3 fr3
theorem itm_lt {a c b k : Nat} (h : itm a c b = some k) : a ≤ k ∧ k < a + c := by
  unfold itm at h
  cases e : ixN ixH b with
  | none => rw [e] at h; cases h
  | some k' =>
    rw [e] at h
    simp only at h
    by_cases q : a ≤ k' ∧ k' < a + c
    · rw [if_pos q] at h; rw [← Option.some.inj h]; exact q
    · rw [if_neg q] at h; cases h
/-! items into the cell 11 -/
def VM11 (fr_ : Nat) (v : Nat → Nat) (hm : rx_Hp) : Prop := ∀ k, k < 4 → hm.2.1 11 (fr_ + k) = zI (v (0 + k) : Nat)
theorem it_m11 {G : rx_Gh} {F : rx_Hp → Prop} (ok : TOk n tb) {fr_ : Nat} (hfr : fr_ + 4 ≤ 4) : ∀ (m p t : Nat) (v : Nat → Nat) (hm : rx_Hp), p ≤ n → t < 128 → bc7 0 4 t + m = 4 → AtM n tb (sk n tb p) hm → hm.1 0 4 = -1 → VM11 fr_ v hm → (∀ e h', pIt n tb 0 4 m p t v = .inl e → h'.1 0 4 = zI e → Fr nuF [11] hm h' → F h') → (∀ p' u h', pIt n tb 0 4 m p t v = .inr (p', u) → AtM n tb p' h' → h'.1 0 4 = -1 → VM11 fr_ u h' → (∀ j, j < fr_ → h'.2.1 11 j = hm.2.1 11 j) → Fr nuF [11] hm h' → F h') → Rn wM G 4 q_M_items 41 [some (.ref 0), some (.int (zI 114)), some (.ref 11), some (.int (zI fr_)), none, some (.int (zI (t / 2 ^ 0 : Nat))), some (.int (match itm 0 4 (chA n tb (sk n tb p)) with | some k => zI ((k - 0 : Nat) : Int) | none => -1))] [] hm (rV F) := by
  have o1 := ok.1
  have ho : acO 0 4 := Or.inl ⟨rfl, rfl⟩
  intro m
  have stop : ∀ (m p t : Nat) (v : Nat → Nat) (hm : rx_Hp), p ≤ n → t < 128 → AtM n tb (sk n tb p) hm → hm.1 0 4 = -1 → VM11 fr_ v hm → (∀ k, itm 0 4 (chA n tb (sk n tb p)) = some k → t.testBit k = true) → (∀ p' u h', (Sum.inr (sk n tb p, v) : Nat ⊕ (Nat × (Nat → Nat))) = .inr (p', u) → AtM n tb p' h' → h'.1 0 4 = -1 → VM11 fr_ u h' → (∀ j, j < fr_ → h'.2.1 11 j = hm.2.1 11 j) → Fr nuF [11] hm h' → F h') → Rn wM G 4 q_M_items 41 [some (.ref 0), some (.int (zI 114)), some (.ref 11), some (.int (zI fr_)), none, some (.int (zI (t / 2 ^ 0 : Nat))), some (.int (match itm 0 4 (chA n tb (sk n tb p)) with | some k => zI ((k - 0 : Nat) : Int) | none => -1))] [] hm (rV F) := by
    intro m p t v hm hp ht T hw V hz K
    have K := K _ _ hm rfl T hw V (fun _ _ => rfl) Fr.rf
    refine w_M_items_11_41 _ _ _ _ ⟨fun _ => ⟨fun _ => K, fun c => ⟨fun d => ?_, fun _ => K⟩⟩, fun c => absurd hw c⟩
    cases e : itm 0 4 (chA n tb (sk n tb p)) with
    | none => rw [e] at c; exact absurd rfl c
    | some k =>
      rw [e] at d
      have hk := itm_lt e
      have g := (gv_r ⟨t, ht⟩ ⟨k - 0, by omega⟩).1
      simp only at g d
      rw [g, show 0 + (k - 0) = k by omega, hz k e] at d
      exact absurd d (by decide)
  induction m with
  | zero =>
    intro p t v hm hp ht hb T hw V Kl Kr
    refine stop 0 p t v hm hp ht T hw V (fun k hk => ?_) (fun p' u h' he => Kr p' u h' (by unfold pIt; exact he))
    have := itm_lt hk
    exact bc_full ho ht (by omega) (by omega) (by omega)
  | succ m ih =>
    intro p t v hm hp ht hb T hw V Kl Kr
    have s2 := sk_le (tb := tb) hp
    have cl := chA_le ok (sk n tb p)
    cases e : itm 0 4 (chA n tb (sk n tb p)) with
    | none =>
      have := stop m p t v hm hp ht T hw V (fun k hk => by rw [e] at hk; cases hk) (fun p' u h' he => Kr p' u h' (by
        conv => lhs; unfold pIt
        rw [e]; exact he))
      rw [e] at this; exact this
    | some k =>
      have hk := itm_lt e
      have hlt : sk n tb p < n := by
        by_cases z : sk n tb p < n
        · exact z
        · have : chA n tb (sk n tb p) = 0 := by unfold chA; rw [if_neg z]
          rw [this] at e
          rw [show itm 0 4 0 = none from by decide] at e
          cases e
      by_cases q : t.testBit k = true
      · have := stop m p t v hm hp ht T hw V (fun k' hk' => by rw [e] at hk'; rw [← Option.some.inj hk']; exact q) (fun p' u h' he => Kr p' u h' (by
          conv => lhs; unfold pIt
          rw [e]; simp only; rw [if_pos q]; exact he))
        rw [e] at this; exact this
      · have ep : pIt n tb 0 4 (m + 1) p t v = (match numR n tb (lsL k) (lsM k) (sk n tb p + 1) with | .inl e => .inl e | .inr (p', u) => pIt n tb 0 4 m p' (t ||| (1 <<< k)) (setN v k u)) := by
          conv => lhs; unfold pIt
          rw [e]
          simp only
          rw [if_neg q]
          cases numR n tb (lsL k) (lsM k) (sk n tb p + 1) <;> rfl
        rw [ep] at Kl Kr
        obtain ⟨k', rfl⟩ : ∃ k', k = 0 + k' := ⟨k - 0, by omega⟩
        have hk' : k' < 4 := by omega
        obtain ⟨g1, g2⟩ := gv_r ⟨t, ht⟩ ⟨k', hk'⟩
        obtain ⟨x1, x2⟩ := hi_r ⟨k', hk'⟩
        simp only at g1 g2 x1 x2
        have bl := ls_bd ⟨0 + k', by omega⟩
        simp only at bl
        have nk : ¬ zI (k' : Int) = -1 := by rw [show (-1 : Int32) = zI (-1) from by decide, zI_eq (by omega) (by omega)]; omega
        simp only [show 0 + k' - 0 = k' by omega]
        refine w_M_items_11_41 _ _ _ _ ⟨fun _ => ⟨fun c => absurd c nk, fun _ => ⟨fun _ => ?_, fun d => ?_⟩⟩, fun c => absurd hw c⟩
        · rw [x1, x2, g2, zI_add, show (fr_ : Int) + (k' : Int) = ((fr_ + k' : Nat) : Int) by omega, zI_cN (by omega)]
          have T2 : AtM n tb (sk n tb p + 1) (rx_pf hm 0 3 (hm.1 0 3 + 1)) := T.to (by rw [T.2]; exact zI_add _ 1)
          have fr2 : Fr nuF [11] hm (rx_pf hm 0 3 (hm.1 0 3 + 1)) := Fr.rf.pf (by decide)
          refine nu_m ok (by omega) (by omega) (by omega) T2 (by rw [pf_ne _ _ (by decide)]; exact hw) (fun e' r h3 he w3 f3 => ?_) (fun p' u h3 he T3 w3 f3 => ?_)
          · have he0 := (numR_bd (n := n) (tb := tb) (lo := lsL (0 + k')) (hi := lsM (0 + k')) (p := sk n tb p + 1) (by omega)).1 e' he
            have nw : ¬ zI (e' : Int) = -1 := by rw [show (-1 : Int32) = zI (-1) from by decide, zI_eq (by omega) (by omega)]; omega
            rw [he] at Kl
            refine ⟨vp_N (by omega) (by omega), fun c => absurd (w3 ▸ c) nw, fun _ => ?_⟩
            refine w_M_items_11_41 _ _ _ _ ⟨fun c => ?_, fun _ => ?_⟩
            · have c : h3.1 0 4 = -1 := c
              exact absurd (w3 ▸ c) nw
            · exact Kl e' _ rfl w3 ((fr2.tr (f3.mono (by decide) (by decide))).pa (by decide))
          · obtain ⟨y1, y2, y3, y4⟩ := (numR_bd (n := n) (tb := tb) (lo := lsL (0 + k')) (hi := lsM (0 + k')) (p := sk n tb p + 1) (by omega)).2 p' u he
            rw [he] at Kl Kr
            simp only at Kl Kr
            refine ⟨vp_N (by omega) (by omega), fun _ => ?_, fun c => absurd w3 c⟩
            have fr4 : Fr nuF [11] hm (rx_pa h3 11 (fr_ + k') (zI u)) := (fr2.tr (f3.mono (by decide) (by decide))).pa (by decide)
            have T4 : AtM n tb p' (rx_pa h3 11 (fr_ + k') (zI u)) := T3.fr (Fr.rf.pa (by decide) : Fr [] [11] h3 _)
            refine look_m ok y2 T4 (fun h5 T5 f5 => ?_)
            have cl' := chA_le ok (sk n tb p')
            have ei := it_r ⟨chA n tb (sk n tb p'), by omega⟩
            simp only at ei
            rw [ei]
            have bo := (bit_o0 ⟨t, ht⟩ ⟨0 + k', by omega⟩).2
            simp only at bo
            have qf : t.testBit (0 + k') = false := by
              cases z : t.testBit (0 + k') with
              | false => rfl
              | true => exact absurd z q
            have a5 : ∀ j, h5.2.1 11 j = (rx_pa h3 11 (fr_ + k') (zI u)).2.1 11 j := fun j => by rw [f5.2.1 11 (by decide)]
            have a3 : ∀ j, h3.2.1 11 j = hm.2.1 11 j := fun j => by rw [f3.2.1 11 (by decide)]; rfl
            refine ih p' (t ||| (1 <<< (0 + k'))) (setN v (0 + k') u) h5 y2 bo ?_ T5 ((f5.1 _ _ (by decide)).trans w3) (fun j hj => ?_) (fun e' h' he' w' f' => Kl e' h' he' w' (fr4.tr ((f5.mono (by decide) (by decide)).tr f'))) (fun p'' u' h' he' T' w' V' A' f' => Kr p'' u' h' he' T' w' V' (fun j hj => ?_) (fr4.tr ((f5.mono (by decide) (by decide)).tr f')))
            · rw [bc_up ho ht qf (by omega) (by omega)]; omega
            · rw [a5]
              unfold setN
              by_cases z : j = k'
              · subst z; rw [pa_same, if_pos rfl]
              · rw [pa_ne _ _ (by simp; omega), if_neg (by omega), a3]; exact V j hj
            · rw [A' j hj, a5, pa_ne _ _ (by simp; omega), a3]
        · rw [g1] at d
          exact absurd ((b2_0 _).mpr (by cases z : t.testBit (0 + k') with | false => rfl | true => exact absurd z q)) d
theorem its_m11 {G : rx_Gh} {F : rx_Hp → Prop} (ok : TOk n tb) {fr_ : Nat} (hfr : fr_ + 4 ≤ 4) {p : Nat} {hm : rx_Hp} (hp : p ≤ n) (T : AtM n tb p hm) (hw : hm.1 0 4 = -1) (Kl : ∀ e h', pIt n tb 0 4 4 p 0 lsU = .inl e → h'.1 0 4 = zI e → Fr nuF [11] hm h' → F h') (Kr : ∀ p' u h', pIt n tb 0 4 4 p 0 lsU = .inr (p', u) → AtM n tb p' h' → h'.1 0 4 = -1 → VM11 fr_ u h' → (∀ j, j < fr_ → h'.2.1 11 j = hm.2.1 11 j) → Fr nuF [11] hm h' → F h') : Ev wM G 4 q_M_items [.ref 0, .int (zI 114), .ref 11, .int (zI fr_), .int (zI 4)] hm (rV F) := by
  have o1 := ok.1
  refine w_M_items_11 _ _ _ ?_
  have lp : ∀ (m j : Nat) (hx : rx_Hp), j + m = 4 → AtM n tb p hx → hx.1 0 4 = -1 → Fr nuF [11] hm hx → (∀ i, i < j → hx.2.1 11 (fr_ + i) = zI (lsU (0 + i) : Nat)) → (∀ i, i < fr_ → hx.2.1 11 i = hm.2.1 11 i) → Rn wM G 4 q_M_items 3 [some (.ref 0), some (.int (zI 114)), some (.ref 11), some (.int (zI fr_)), some (.int (zI 4)), some (.int (zI j)), none] [] hx (rV F) := by
    intro m
    induction m with
    | zero =>
      intro j hx hj T hw fr V B
      have hcn : zI 4 ≤ zI (j : Int) := by rw [zI_le (by omega) (by omega)]; omega
      refine w_M_items_11_3 _ _ _ _ ⟨fun _ => look_m ok hp T (fun h1 T1 f1 => ?_), fun c => absurd hcn c⟩
      have cl' := chA_le ok (sk n tb p)
      have ei := it_r ⟨chA n tb (sk n tb p), by omega⟩
      simp only at ei
      rw [ei]
      have fr1 : Fr nuF [11] hm h1 := fr.tr (f1.mono (by decide) (by decide))
      have R := it_m11 (G := G) (F := F) ok hfr 4 p 0 lsU h1 hp (by omega) (by decide) T1 ((f1.1 _ _ (by decide)).trans hw) (fun i hi => by rw [f1.2.1 11 (by decide)]; exact V i (by omega)) (fun e h' he w' f' => Kl e h' he w' (fr1.tr f')) (fun p' u h' he T' w' V' A' f' => Kr p' u h' he T' w' V' (fun i hi => by rw [A' i hi, f1.2.1 11 (by decide)]; exact B i hi) (fr1.tr f'))
      exact R
    | succ m ih =>
      intro j hx hj T hw fr V B
      have hcn : ¬ zI 4 ≤ zI (j : Int) := by rw [zI_le (by omega) (by omega)]; omega
      have u := us_r ⟨j, by omega⟩
      simp only at u
      refine w_M_items_11_3 _ _ _ _ ⟨fun c => absurd c hcn, fun _ => ?_⟩
      rw [u, zI_add, show (fr_ : Int) + (j : Int) = ((fr_ + j : Nat) : Int) by omega, zI_cN (by omega), show zI (j : Int) + 1 = zI ((j + 1 : Nat) : Int) from zI_add j 1]
      refine ⟨vp_N (by omega) (by omega), ih (j + 1) _ (by omega) (T.fr (Fr.rf.pa (by decide) : Fr [] [11] hx _)) hw (fr.pa (by decide)) (fun i hi => ?_) (fun i hi => ?_)⟩
      · by_cases q : i = j
        · subst q; rw [pa_same]
        · rw [pa_ne _ _ (by simp; omega)]; exact V i (by omega)
      · rw [pa_ne _ _ (by simp; omega)]; exact B i hi
  exact lp 4 0 hm (by omega) T hw Fr.rf (fun i hi => absurd hi (Nat.not_lt_zero i)) (fun _ _ => rfl)
/-! items into the cell 12 -/
def VM12 (fr_ : Nat) (v : Nat → Nat) (hm : rx_Hp) : Prop := ∀ k, k < 3 → hm.2.1 12 (fr_ + k) = zI (v (4 + k) : Nat)
theorem it_m12 {G : rx_Gh} {F : rx_Hp → Prop} (ok : TOk n tb) {fr_ : Nat} (hfr : fr_ + 3 ≤ 18) : ∀ (m p t : Nat) (v : Nat → Nat) (hm : rx_Hp), p ≤ n → t < 128 → bc7 4 3 t + m = 3 → AtM n tb (sk n tb p) hm → hm.1 0 4 = -1 → VM12 fr_ v hm → (∀ e h', pIt n tb 4 3 m p t v = .inl e → h'.1 0 4 = zI e → Fr nuF [12] hm h' → F h') → (∀ p' u h', pIt n tb 4 3 m p t v = .inr (p', u) → AtM n tb p' h' → h'.1 0 4 = -1 → VM12 fr_ u h' → (∀ j, j < fr_ → h'.2.1 12 j = hm.2.1 12 j) → Fr nuF [12] hm h' → F h') → Rn wM G 4 q_M_items 41 [some (.ref 0), some (.int (zI 98)), some (.ref 12), some (.int (zI fr_)), none, some (.int (zI (t / 2 ^ 4 : Nat))), some (.int (match itm 4 3 (chA n tb (sk n tb p)) with | some k => zI ((k - 4 : Nat) : Int) | none => -1))] [] hm (rV F) := by
  have o1 := ok.1
  have ho : acO 4 3 := Or.inr ⟨rfl, rfl⟩
  intro m
  have stop : ∀ (m p t : Nat) (v : Nat → Nat) (hm : rx_Hp), p ≤ n → t < 128 → AtM n tb (sk n tb p) hm → hm.1 0 4 = -1 → VM12 fr_ v hm → (∀ k, itm 4 3 (chA n tb (sk n tb p)) = some k → t.testBit k = true) → (∀ p' u h', (Sum.inr (sk n tb p, v) : Nat ⊕ (Nat × (Nat → Nat))) = .inr (p', u) → AtM n tb p' h' → h'.1 0 4 = -1 → VM12 fr_ u h' → (∀ j, j < fr_ → h'.2.1 12 j = hm.2.1 12 j) → Fr nuF [12] hm h' → F h') → Rn wM G 4 q_M_items 41 [some (.ref 0), some (.int (zI 98)), some (.ref 12), some (.int (zI fr_)), none, some (.int (zI (t / 2 ^ 4 : Nat))), some (.int (match itm 4 3 (chA n tb (sk n tb p)) with | some k => zI ((k - 4 : Nat) : Int) | none => -1))] [] hm (rV F) := by
    intro m p t v hm hp ht T hw V hz K
    have K := K _ _ hm rfl T hw V (fun _ _ => rfl) Fr.rf
    refine w_M_items_12_41 _ _ _ _ ⟨fun _ => ⟨fun _ => K, fun c => ⟨fun d => ?_, fun _ => K⟩⟩, fun c => absurd hw c⟩
    cases e : itm 4 3 (chA n tb (sk n tb p)) with
    | none => rw [e] at c; exact absurd rfl c
    | some k =>
      rw [e] at d
      have hk := itm_lt e
      have g := (gv_b ⟨t, ht⟩ ⟨k - 4, by omega⟩).1
      simp only at g d
      rw [g, show 4 + (k - 4) = k by omega, hz k e] at d
      exact absurd d (by decide)
  induction m with
  | zero =>
    intro p t v hm hp ht hb T hw V Kl Kr
    refine stop 0 p t v hm hp ht T hw V (fun k hk => ?_) (fun p' u h' he => Kr p' u h' (by unfold pIt; exact he))
    have := itm_lt hk
    exact bc_full ho ht (by omega) (by omega) (by omega)
  | succ m ih =>
    intro p t v hm hp ht hb T hw V Kl Kr
    have s2 := sk_le (tb := tb) hp
    have cl := chA_le ok (sk n tb p)
    cases e : itm 4 3 (chA n tb (sk n tb p)) with
    | none =>
      have := stop m p t v hm hp ht T hw V (fun k hk => by rw [e] at hk; cases hk) (fun p' u h' he => Kr p' u h' (by
        conv => lhs; unfold pIt
        rw [e]; exact he))
      rw [e] at this; exact this
    | some k =>
      have hk := itm_lt e
      have hlt : sk n tb p < n := by
        by_cases z : sk n tb p < n
        · exact z
        · have : chA n tb (sk n tb p) = 0 := by unfold chA; rw [if_neg z]
          rw [this] at e
          rw [show itm 4 3 0 = none from by decide] at e
          cases e
      by_cases q : t.testBit k = true
      · have := stop m p t v hm hp ht T hw V (fun k' hk' => by rw [e] at hk'; rw [← Option.some.inj hk']; exact q) (fun p' u h' he => Kr p' u h' (by
          conv => lhs; unfold pIt
          rw [e]; simp only; rw [if_pos q]; exact he))
        rw [e] at this; exact this
      · have ep : pIt n tb 4 3 (m + 1) p t v = (match numR n tb (lsL k) (lsM k) (sk n tb p + 1) with | .inl e => .inl e | .inr (p', u) => pIt n tb 4 3 m p' (t ||| (1 <<< k)) (setN v k u)) := by
          conv => lhs; unfold pIt
          rw [e]
          simp only
          rw [if_neg q]
          cases numR n tb (lsL k) (lsM k) (sk n tb p + 1) <;> rfl
        rw [ep] at Kl Kr
        obtain ⟨k', rfl⟩ : ∃ k', k = 4 + k' := ⟨k - 4, by omega⟩
        have hk' : k' < 3 := by omega
        obtain ⟨g1, g2⟩ := gv_b ⟨t, ht⟩ ⟨k', hk'⟩
        obtain ⟨x1, x2⟩ := hi_b ⟨k', hk'⟩
        simp only at g1 g2 x1 x2
        have bl := ls_bd ⟨4 + k', by omega⟩
        simp only at bl
        have nk : ¬ zI (k' : Int) = -1 := by rw [show (-1 : Int32) = zI (-1) from by decide, zI_eq (by omega) (by omega)]; omega
        simp only [show 4 + k' - 4 = k' by omega]
        refine w_M_items_12_41 _ _ _ _ ⟨fun _ => ⟨fun c => absurd c nk, fun _ => ⟨fun _ => ?_, fun d => ?_⟩⟩, fun c => absurd hw c⟩
        · rw [x1, x2, g2, zI_add, show (fr_ : Int) + (k' : Int) = ((fr_ + k' : Nat) : Int) by omega, zI_cN (by omega)]
          have T2 : AtM n tb (sk n tb p + 1) (rx_pf hm 0 3 (hm.1 0 3 + 1)) := T.to (by rw [T.2]; exact zI_add _ 1)
          have fr2 : Fr nuF [12] hm (rx_pf hm 0 3 (hm.1 0 3 + 1)) := Fr.rf.pf (by decide)
          refine nu_m ok (by omega) (by omega) (by omega) T2 (by rw [pf_ne _ _ (by decide)]; exact hw) (fun e' r h3 he w3 f3 => ?_) (fun p' u h3 he T3 w3 f3 => ?_)
          · have he0 := (numR_bd (n := n) (tb := tb) (lo := lsL (4 + k')) (hi := lsM (4 + k')) (p := sk n tb p + 1) (by omega)).1 e' he
            have nw : ¬ zI (e' : Int) = -1 := by rw [show (-1 : Int32) = zI (-1) from by decide, zI_eq (by omega) (by omega)]; omega
            rw [he] at Kl
            refine ⟨vp_N (by omega) (by omega), fun c => absurd (w3 ▸ c) nw, fun _ => ?_⟩
            refine w_M_items_12_41 _ _ _ _ ⟨fun c => ?_, fun _ => ?_⟩
            · have c : h3.1 0 4 = -1 := c
              exact absurd (w3 ▸ c) nw
            · exact Kl e' _ rfl w3 ((fr2.tr (f3.mono (by decide) (by decide))).pa (by decide))
          · obtain ⟨y1, y2, y3, y4⟩ := (numR_bd (n := n) (tb := tb) (lo := lsL (4 + k')) (hi := lsM (4 + k')) (p := sk n tb p + 1) (by omega)).2 p' u he
            rw [he] at Kl Kr
            simp only at Kl Kr
            refine ⟨vp_N (by omega) (by omega), fun _ => ?_, fun c => absurd w3 c⟩
            have fr4 : Fr nuF [12] hm (rx_pa h3 12 (fr_ + k') (zI u)) := (fr2.tr (f3.mono (by decide) (by decide))).pa (by decide)
            have T4 : AtM n tb p' (rx_pa h3 12 (fr_ + k') (zI u)) := T3.fr (Fr.rf.pa (by decide) : Fr [] [12] h3 _)
            refine look_m ok y2 T4 (fun h5 T5 f5 => ?_)
            have cl' := chA_le ok (sk n tb p')
            have ei := it_b ⟨chA n tb (sk n tb p'), by omega⟩
            simp only at ei
            rw [ei]
            have bo := (bit_o0 ⟨t, ht⟩ ⟨4 + k', by omega⟩).2
            simp only at bo
            have qf : t.testBit (4 + k') = false := by
              cases z : t.testBit (4 + k') with
              | false => rfl
              | true => exact absurd z q
            have a5 : ∀ j, h5.2.1 12 j = (rx_pa h3 12 (fr_ + k') (zI u)).2.1 12 j := fun j => by rw [f5.2.1 12 (by decide)]
            have a3 : ∀ j, h3.2.1 12 j = hm.2.1 12 j := fun j => by rw [f3.2.1 12 (by decide)]; rfl
            refine ih p' (t ||| (1 <<< (4 + k'))) (setN v (4 + k') u) h5 y2 bo ?_ T5 ((f5.1 _ _ (by decide)).trans w3) (fun j hj => ?_) (fun e' h' he' w' f' => Kl e' h' he' w' (fr4.tr ((f5.mono (by decide) (by decide)).tr f'))) (fun p'' u' h' he' T' w' V' A' f' => Kr p'' u' h' he' T' w' V' (fun j hj => ?_) (fr4.tr ((f5.mono (by decide) (by decide)).tr f')))
            · rw [bc_up ho ht qf (by omega) (by omega)]; omega
            · rw [a5]
              unfold setN
              by_cases z : j = k'
              · subst z; rw [pa_same, if_pos rfl]
              · rw [pa_ne _ _ (by simp; omega), if_neg (by omega), a3]; exact V j hj
            · rw [A' j hj, a5, pa_ne _ _ (by simp; omega), a3]
        · rw [g1] at d
          exact absurd ((b2_0 _).mpr (by cases z : t.testBit (4 + k') with | false => rfl | true => exact absurd z q)) d
theorem its_m12 {G : rx_Gh} {F : rx_Hp → Prop} (ok : TOk n tb) {fr_ : Nat} (hfr : fr_ + 3 ≤ 18) {p : Nat} {hm : rx_Hp} (hp : p ≤ n) (T : AtM n tb p hm) (hw : hm.1 0 4 = -1) (Kl : ∀ e h', pIt n tb 4 3 3 p 0 lsU = .inl e → h'.1 0 4 = zI e → Fr nuF [12] hm h' → F h') (Kr : ∀ p' u h', pIt n tb 4 3 3 p 0 lsU = .inr (p', u) → AtM n tb p' h' → h'.1 0 4 = -1 → VM12 fr_ u h' → (∀ j, j < fr_ → h'.2.1 12 j = hm.2.1 12 j) → Fr nuF [12] hm h' → F h') : Ev wM G 4 q_M_items [.ref 0, .int (zI 98), .ref 12, .int (zI fr_), .int (zI 3)] hm (rV F) := by
  have o1 := ok.1
  refine w_M_items_12 _ _ _ ?_
  have lp : ∀ (m j : Nat) (hx : rx_Hp), j + m = 3 → AtM n tb p hx → hx.1 0 4 = -1 → Fr nuF [12] hm hx → (∀ i, i < j → hx.2.1 12 (fr_ + i) = zI (lsU (4 + i) : Nat)) → (∀ i, i < fr_ → hx.2.1 12 i = hm.2.1 12 i) → Rn wM G 4 q_M_items 3 [some (.ref 0), some (.int (zI 98)), some (.ref 12), some (.int (zI fr_)), some (.int (zI 3)), some (.int (zI j)), none] [] hx (rV F) := by
    intro m
    induction m with
    | zero =>
      intro j hx hj T hw fr V B
      have hcn : zI 3 ≤ zI (j : Int) := by rw [zI_le (by omega) (by omega)]; omega
      refine w_M_items_12_3 _ _ _ _ ⟨fun _ => look_m ok hp T (fun h1 T1 f1 => ?_), fun c => absurd hcn c⟩
      have cl' := chA_le ok (sk n tb p)
      have ei := it_b ⟨chA n tb (sk n tb p), by omega⟩
      simp only at ei
      rw [ei]
      have fr1 : Fr nuF [12] hm h1 := fr.tr (f1.mono (by decide) (by decide))
      have R := it_m12 (G := G) (F := F) ok hfr 3 p 0 lsU h1 hp (by omega) (by decide) T1 ((f1.1 _ _ (by decide)).trans hw) (fun i hi => by rw [f1.2.1 12 (by decide)]; exact V i (by omega)) (fun e h' he w' f' => Kl e h' he w' (fr1.tr f')) (fun p' u h' he T' w' V' A' f' => Kr p' u h' he T' w' V' (fun i hi => by rw [A' i hi, f1.2.1 12 (by decide)]; exact B i hi) (fr1.tr f'))
      exact R
    | succ m ih =>
      intro j hx hj T hw fr V B
      have hcn : ¬ zI 3 ≤ zI (j : Int) := by rw [zI_le (by omega) (by omega)]; omega
      have u := us_b ⟨j, by omega⟩
      simp only at u
      refine w_M_items_12_3 _ _ _ _ ⟨fun c => absurd c hcn, fun _ => ?_⟩
      rw [u, zI_add, show (fr_ : Int) + (j : Int) = ((fr_ + j : Nat) : Int) by omega, zI_cN (by omega), show zI (j : Int) + 1 = zI ((j + 1 : Nat) : Int) from zI_add j 1]
      refine ⟨vp_N (by omega) (by omega), ih (j + 1) _ (by omega) (T.fr (Fr.rf.pa (by decide) : Fr [] [12] hx _)) hw (fr.pa (by decide)) (fun i hi => ?_) (fun i hi => ?_)⟩
      · by_cases q : i = j
        · subst q; rw [pa_same]
        · rw [pa_ne _ _ (by simp; omega)]; exact V i (by omega)
      · rw [pa_ne _ _ (by simp; omega)]; exact B i hi
  exact lp 3 0 hm (by omega) T hw Fr.rf (fun i hi => absurd hi (Nat.not_lt_zero i)) (fun _ _ => rfl)
end HLM

/-! worth: tokens worked out, both sides -/
def Stk (a : Nat → Int32) : List Int → Prop
  | [] => True
  | x :: r => a r.length = zI x ∧ Stk a r
theorem stk_pa {hp : rx_Hp} {k i : Nat} {v : Int32} : ∀ {st : List Int}, Stk (hp.2.1 k) st → st.length ≤ i → Stk ((rx_pa hp k i v).2.1 k) st
  | [], _, _ => trivial
  | x :: r, h, hi => by
    rw [List.length_cons] at hi
    refine ⟨?_, stk_pa h.2 (by omega)⟩
    rw [pa_ne _ _ (by omega)]; exact h.1
theorem run_c {L : Nat → Int} {t : Tk} {r : List Tk} {st st' : List Int} (h : run L (t :: r) st = some st') : ∃ s1, stp L t st = some s1 ∧ run L r s1 = some st' := by
  rw [run] at h
  exact Option.bind_eq_some_iff.mp h
theorem stp_9 {L : Nat → Int} {t : Tk} (h : t.1 = 9) {st s1 : List Int} (e : stp L t st = some s1) : ∃ x q, st = x :: q ∧ s1 = (1 - x) :: q := by
  unfold stp at e
  rw [if_neg (by omega), if_neg (by omega), if_pos h] at e
  cases st with
  | nil => cases e
  | cons x q =>
    simp only at e
    by_cases c : x = 0 ∨ x = 1
    · rw [if_pos c] at e; cases e; exact ⟨x, q, rfl, rfl⟩
    · rw [if_neg c] at e; cases e
theorem stp_2 {L : Nat → Int} {t : Tk} (h : ¬ t.1 ≤ 1) (h9 : ¬ t.1 = 9) {st s1 : List Int} (e : stp L t st = some s1) : ∃ x y q, st = y :: x :: q ∧ s1 = opI t.1 x y :: q ∧ gdB t.1 x y = true := by
  unfold stp at e
  rw [if_neg (by omega), if_neg (by omega), if_neg h9] at e
  match st, e with
  | [], e => cases e
  | [_], e => cases e
  | y :: x :: q, e =>
    simp only at e
    by_cases c : gdB t.1 x y = true
    · rw [if_pos c] at e; cases e; exact ⟨x, y, q, rfl, rfl, c⟩
    · rw [if_neg c] at e; cases e
theorem opn_c {t : Tk} {r : List Tk} : opn (t :: r) = (if t.1 ≤ 1 then 1 else 0) + opn r := rfl
theorem isL_le {o : Nat} (h : isL o) : o ≤ 32 := by
  unfold isL at h
  omega
/-- the class works tokens out -/
theorem ex_c {G : rx_Gh} {F : Int32 → rx_Hp → Prop} {o : Nat} (ho : isL o) {T : List Tk} {L : Nat → Int} {hc : rx_Hp} (hT : T.length ≤ 160) (hl : hc.1 o 2 = zI (T.length : Nat)) (ht : ∀ i t, T[i]? = some t → hc.2.1 (o + 1) i = zI (sgC t.1 : Nat) ∧ hc.2.1 (o + 2) i = zI (t.2 : Nat)) (hL : ∀ l, l < 6 → hc.2.1 35 l = zI (L l)) : ∀ (ts : List Tk) (p : Nat) (st st' : List Int) (hp : rx_Hp), (∀ i t, ts[i]? = some t → T[p + i]? = some t) → (∀ t ∈ ts, tkOk t) → run L ts st = some st' → st.length + opn ts ≤ 160 → Fr [] [36] hc hp → Stk (hp.2.1 36) st → (∀ h', Fr [] [36] hc h' → Stk (h'.2.1 36) st' → Rn wC G 4 q_Li_worth 5 [some (.ref o), some (.ref 35), some (.ref 36), some (.int (zI (st'.length : Nat))), some (.int (zI ((p + ts.length : Nat) : Int))), none] [] h' (rI F)) → Rn wC G 4 q_Li_worth 5 [some (.ref o), some (.ref 35), some (.ref 36), some (.int (zI (st.length : Nat))), some (.int (zI (p : Nat))), none] [] hp (rI F) := by
  have o1 := isL_ge ho
  have o2 := isL_le ho
  intro ts
  induction ts with
  | nil =>
    intro p st st' hp _ _ hr _ fr S K
    rw [run] at hr
    cases hr
    exact K hp fr S
  | cons t r ih =>
    intro p st st' hp hps hk hr hop fr S K
    obtain ⟨s1, e1, e2⟩ := run_c hr
    have hp0 := hps 0 t rfl
    rw [Nat.add_zero] at hp0
    have hpl : p < T.length := (List.getElem?_eq_some_iff.mp hp0).1
    obtain ⟨k1, k2, k3⟩ := hk t (List.mem_cons_self)
    obtain ⟨t1, t2⟩ := ht p t hp0
    have g1 : hp.2.1 (o + 1) p = zI (sgC t.1 : Nat) := by rw [fr.2.1 (o + 1) (by simp; omega)]; exact t1
    have g2 : hp.2.1 (o + 2) p = zI (t.2 : Nat) := by rw [fr.2.1 (o + 2) (by simp; omega)]; exact t2
    have g3 : hp.1 o 2 = zI (T.length : Nat) := by rw [fr.1 o 2 (by simp)]; exact hl
    have hcn : ¬ zI (T.length : Nat) ≤ zI (p : Int) := by rw [zI_le (by omega) (by omega)]; omega
    obtain ⟨n48, n97, n59, n33, n63⟩ := sg_n ⟨t.1, by omega⟩
    simp only at n48 n97 n59 n33 n63
    have ih' : ∀ (hx : rx_Hp), Fr [] [36] hc hx → Stk (hx.2.1 36) s1 → s1.length + opn r ≤ 160 → Rn wC G 4 q_Li_worth 5 [some (.ref o), some (.ref 35), some (.ref 36), some (.int (zI (s1.length : Nat))), some (.int (zI ((p + 1 : Nat) : Int))), none] [] hx (rI F) := by
      intro hx fx Sx hb
      refine ih (p + 1) s1 st' hx (fun i t' hi => ?_) (fun t' h' => hk t' (List.mem_cons_of_mem _ h')) e2 hb fx Sx (fun h' f' S' => ?_)
      · have := hps (i + 1) t' hi
        rw [show p + 1 + i = p + (i + 1) from by omega]; exact this
      · have := K h' f' S'
        rw [List.length_cons] at this
        rw [show p + 1 + r.length = p + (r.length + 1) from by omega]; exact this
    have ep : zI (p : Int) + 1 = zI ((p + 1 : Nat) : Int) := zI_add _ 1
    rw [opn_c] at hop
    refine w_Li_worth_5 _ _ ho ?_
    rw [zI_cN (by omega), g1, g2, g3, ep]
    refine ⟨fun c => absurd c hcn, fun _ => ⟨vp_N (by omega) (by omega), fun c => ?_, fun c48 => ⟨fun c => ?_, fun c97 => ?_⟩⟩⟩
    · -- a number
      have k0 := n48.mp c
      rw [if_pos (by omega)] at hop
      have : s1 = (t.2 : Int) :: st := by unfold stp at e1; rw [if_pos k0] at e1; cases e1; rfl
      subst this
      have c3 : zI (st.length : Int) < 160 := by rw [show (160 : Int32) = zI 160 from by decide, zI_lt (by omega) (by omega)]; omega
      refine ⟨fun _ => ⟨vp_N (by omega) (by omega), ?_⟩, fun c => absurd c3 c⟩
      rw [zI_cN (by omega), show zI (st.length : Int) + 1 = zI ((((t.2 : Int) :: st).length : Nat) : Int) from zI_add _ 1]
      refine ih' _ (fr.pa (by decide)) ⟨?_, stk_pa S (Nat.le_refl _)⟩ (by rw [List.length_cons]; omega)
      rw [pa_same]
    · have k0 := n97.mp c
      rw [if_pos (by omega)] at hop
      have : s1 = L t.2 :: st := by unfold stp at e1; rw [if_neg (by omega), if_pos k0] at e1; cases e1; rfl
      subst this
      have h6 := k3 k0
      have c3 : zI (st.length : Int) < 160 := by rw [show (160 : Int32) = zI 160 from by decide, zI_lt (by omega) (by omega)]; omega
      have l1 : ¬ zI (t.2 : Int) < 0 := by
        have := zI_lt (a := (t.2 : Int)) (b := 0) (by omega) (by omega)
        rw [show zI 0 = (0 : Int32) from by decide] at this
        rw [this]; omega
      have l2 : ¬ 6 ≤ zI (t.2 : Int) := by rw [show (6 : Int32) = zI 6 from by decide, zI_le (by omega) (by omega)]; omega
      have el : f_Li_letterAt (zI (t.2 : Int)) hp = zI (L t.2) := by
        unfold f_Li_letterAt
        rw [if_neg l1, if_neg l2, zI_cN (by omega), fr.2.1 35 (by decide)]; exact hL t.2 h6
      refine ⟨fun _ => ⟨fun _ _ => vp_N h6 (by omega), vp_N (by omega) (by omega), ?_⟩, fun c => absurd c3 c⟩
      rw [el, zI_cN (by omega), show zI (st.length : Int) + 1 = zI (((L t.2 :: st).length : Nat) : Int) from zI_add _ 1]
      refine ih' _ (fr.pa (by decide)) ⟨?_, stk_pa S (Nat.le_refl _)⟩ (by rw [List.length_cons]; omega)
      rw [pa_same]
    · have q0 : ¬ t.1 = 0 := fun z => c48 (n48.mpr z)
      have q1 : ¬ t.1 = 1 := fun z => c97 (n97.mpr z)
      rw [if_neg (by omega)] at hop
      have q59 : ¬ zI (sgC t.1 : Nat) = 59 := fun z => by have := n59.mp z; omega
      have q63 : ¬ zI (sgC t.1 : Nat) = 63 := fun z => by have := n63.mp z; omega
      by_cases c9 : t.1 = 9
      · obtain ⟨x, q, rfl, rfl⟩ := stp_9 c9 e1
        rw [List.length_cons] at hop
        have i1 : (1 : Int32) ≤ zI (((x :: q).length : Nat) : Int) := by rw [show (1 : Int32) = zI 1 from by decide, zI_le (by omega) (by rw [List.length_cons]; omega), List.length_cons]; omega
        have ei : zI (((x :: q).length : Nat) : Int) - 1 = zI (q.length : Int) := by rw [show (1 : Int32) = zI 1 from by decide, zI_sub, List.length_cons]; congr 1; omega
        refine ⟨fun _ => ⟨fun z => absurd z q59, fun _ => ⟨fun _ => ?_, fun z => absurd (n33.mpr c9) z⟩⟩, fun z => absurd i1 z⟩
        rw [ei, zI_cN (by omega), S.1, show (1 : Int32) = zI 1 from by decide, zI_sub]
        refine ⟨vp_N (by omega) (by omega), ?_⟩
        refine ih' _ (fr.pa (by decide)) ⟨?_, stk_pa S.2 (Nat.le_refl _)⟩ (by rw [List.length_cons]; omega)
        rw [pa_same]
      · obtain ⟨x, y, q, rfl, rfl, hg⟩ := stp_2 (by omega) c9 e1
        rw [List.length_cons, List.length_cons] at hop
        have i1 : (1 : Int32) ≤ zI (((y :: x :: q).length : Nat) : Int) := by rw [show (1 : Int32) = zI 1 from by decide, zI_le (by omega) (by rw [List.length_cons, List.length_cons]; omega), List.length_cons]; omega
        have i2 : (2 : Int32) ≤ zI (((y :: x :: q).length : Nat) : Int) := by rw [show (2 : Int32) = zI 2 from by decide, zI_le (by omega) (by rw [List.length_cons, List.length_cons]; omega), List.length_cons, List.length_cons]; omega
        have ei : zI (((y :: x :: q).length : Nat) : Int) + -1 = zI ((q.length + 1 : Nat) : Int) := by rw [show (-1 : Int32) = zI (-1) from by decide, zI_add, List.length_cons, List.length_cons]; congr 1; omega
        have ej : zI ((q.length + 1 : Nat) : Int) - 1 = zI (q.length : Int) := by rw [show (1 : Int32) = zI 1 from by decide, zI_sub]; congr 1; omega
        refine ⟨fun _ => ⟨fun z => absurd z q59, fun _ => ⟨fun z => absurd (n33.mp z) c9, fun _ => ⟨fun z => absurd z q63, fun _ => ⟨fun _ => ?_, fun z => absurd i2 z⟩⟩⟩⟩, fun z => absurd i1 z⟩
        have s1 : hp.2.1 36 (q.length + 1) = zI y := S.1
        rw [ei, ej, zI_cN (by omega), zI_cN (by omega), s1, S.2.1, jo_c (by omega) hg]
        refine ⟨vp_N (by omega) (by omega), vp_N (by omega) (by omega), ?_⟩
        refine ih' _ (fr.pa (by decide)) ⟨?_, stk_pa S.2.2 (Nat.le_refl _)⟩ (by rw [List.length_cons]; omega)
        rw [pa_same]
/-- the model works tokens out -/
theorem ex_m {G : rx_Gh} {F : Int32 → rx_Hp → Prop} {r n : Nat} (hr : r < 5) (hn : n ≤ 340) {T : List Tk} {L : Nat → Int} {hm : rx_Hp} (ht : ∀ i t, T[i]? = some t → hm.2.1 2 (340 * r + i) = zI (t.1 : Nat) ∧ hm.2.1 3 (340 * r + i) = zI (t.2 : Nat)) (hL : ∀ l, l < 6 → hm.2.1 9 l = zI (L l)) : ∀ (ts : List Tk) (p : Nat) (st : List Int) (v : Int) (hp : rx_Hp), p + ts.length = n → (∀ i t, ts[i]? = some t → T[p + i]? = some t) → (∀ t ∈ ts, tkOk t) → run L ts st = some [v] → st.length + opn ts ≤ 80 → Fr [] [10] hm hp → Stk (hp.2.1 10) st → (∀ h', Fr [] [10] hm h' → F (zI v) h') → Rn wM G 4 q_M_workOut 12 [some (.ref 0), some (.int (zI (r : Nat))), none, some (.int (zI (n : Nat))), some (.int (zI (st.length : Nat))), some (.int (zI ((340 * r + p : Nat) : Int)))] [] hp (rI F) := by
  intro ts
  have en : (340 : Int32) * zI (r : Int) + zI (n : Int) = zI ((340 * r + n : Nat) : Int) := by
    rw [show (340 : Int32) = zI 340 from by decide, zI_mul, zI_add]; congr 1
  induction ts with
  | nil =>
    intro p st v hp hpn _ _ hrn _ fr S K
    rw [run] at hrn
    cases hrn
    rw [List.length_nil, Nat.add_zero] at hpn
    subst hpn
    refine w_M_workOut_12 _ _ _ _ ?_
    rw [en]
    refine ⟨fun _ => ?_, fun c => absurd (by rw [zI_le (by omega) (by omega)]; omega) c⟩
    have s1 : hp.2.1 10 0 = zI v := S.1
    rw [s1]; exact K hp fr
  | cons t rs ih =>
    intro p st v hp hpn hps hk hrn hop fr S K
    obtain ⟨s1, e1, e2⟩ := run_c hrn
    have hp0 := hps 0 t rfl
    rw [Nat.add_zero] at hp0
    rw [List.length_cons] at hpn
    obtain ⟨k1, k2, k3⟩ := hk t (List.mem_cons_self)
    obtain ⟨t1, t2⟩ := ht p t hp0
    have g1 : hp.2.1 2 (340 * r + p) = zI (t.1 : Nat) := by rw [fr.2.1 2 (by decide)]; exact t1
    have g2 : hp.2.1 3 (340 * r + p) = zI (t.2 : Nat) := by rw [fr.2.1 3 (by decide)]; exact t2
    have hcn : ¬ zI ((340 * r + n : Nat) : Int) ≤ zI ((340 * r + p : Nat) : Int) := by rw [zI_le (by omega) (by omega)]; omega
    have tz : ∀ m : Nat, m < 100 → (zI (t.1 : Int) = zI (m : Int) ↔ t.1 = m) := fun m hm => by rw [zI_eq (by omega) (by omega)]; omega
    have n0 := tz 0 (by omega)
    have n1 := tz 1 (by omega)
    have n9 := tz 9 (by omega)
    rw [show zI ((0 : Nat) : Int) = (0 : Int32) from by decide] at n0
    rw [show zI ((1 : Nat) : Int) = (1 : Int32) from by decide] at n1
    rw [show zI ((9 : Nat) : Int) = (9 : Int32) from by decide] at n9
    have ih' : ∀ (hx : rx_Hp), Fr [] [10] hm hx → Stk (hx.2.1 10) s1 → s1.length + opn rs ≤ 80 → Rn wM G 4 q_M_workOut 12 [some (.ref 0), some (.int (zI (r : Nat))), none, some (.int (zI (n : Nat))), some (.int (zI (s1.length : Nat))), some (.int (zI ((340 * r + (p + 1) : Nat) : Int)))] [] hx (rI F) := by
      intro hx fx Sx hb
      refine ih (p + 1) s1 v hx (by omega) (fun i t' hi => ?_) (fun t' h' => hk t' (List.mem_cons_of_mem _ h')) e2 hb fx Sx K
      have := hps (i + 1) t' hi
      rw [show p + 1 + i = p + (i + 1) from by omega]; exact this
    have ep : zI ((340 * r + p : Nat) : Int) + 1 = zI ((340 * r + (p + 1) : Nat) : Int) := zI_add _ 1
    rw [opn_c] at hop
    refine w_M_workOut_12 _ _ _ _ ?_
    rw [en, zI_cN (by omega), g1, g2, ep]
    refine ⟨fun c => absurd c hcn, fun _ => ⟨vp_N (by omega) (by omega), fun c => ?_, fun c48 => ⟨fun c => ?_, fun c97 => ?_⟩⟩⟩
    · have k0 := n0.mp c
      rw [if_pos (by omega)] at hop
      have : s1 = (t.2 : Int) :: st := by unfold stp at e1; rw [if_pos k0] at e1; cases e1; rfl
      subst this
      refine ⟨vp_N (by omega) (by omega), ?_⟩
      rw [zI_cN (by omega), show zI (st.length : Int) + 1 = zI ((((t.2 : Int) :: st).length : Nat) : Int) from zI_add _ 1]
      refine ih' _ (fr.pa (by decide)) ⟨?_, stk_pa S (Nat.le_refl _)⟩ (by rw [List.length_cons]; omega)
      rw [pa_same]
    · have k0 := n1.mp c
      rw [if_pos (by omega)] at hop
      have : s1 = L t.2 :: st := by unfold stp at e1; rw [if_neg (by omega), if_pos k0] at e1; cases e1; rfl
      subst this
      have h6 := k3 k0
      refine ⟨vp_N h6 (by omega), vp_N (by omega) (by omega), ?_⟩
      rw [zI_cN (by omega), zI_cN (by omega), fr.2.1 9 (by decide), hL t.2 h6, show zI (st.length : Int) + 1 = zI (((L t.2 :: st).length : Nat) : Int) from zI_add _ 1]
      refine ih' _ (fr.pa (by decide)) ⟨?_, stk_pa S (Nat.le_refl _)⟩ (by rw [List.length_cons]; omega)
      rw [pa_same]
    · have q0 : ¬ t.1 = 0 := fun z => c48 (n0.mpr z)
      have q1 : ¬ t.1 = 1 := fun z => c97 (n1.mpr z)
      rw [if_neg (by omega)] at hop
      by_cases c9 : t.1 = 9
      · obtain ⟨x, q, rfl, rfl⟩ := stp_9 c9 e1
        rw [List.length_cons] at hop
        have ei : zI (((x :: q).length : Nat) : Int) - 1 = zI (q.length : Int) := by rw [show (1 : Int32) = zI 1 from by decide, zI_sub, List.length_cons]; congr 1; omega
        refine ⟨fun _ => ?_, fun z => absurd (n9.mpr c9) z⟩
        rw [ei, zI_cN (by omega), S.1, show (1 : Int32) = zI 1 from by decide, zI_sub]
        refine ⟨vp_N (by omega) (by omega), ?_⟩
        refine ih' _ (fr.pa (by decide)) ⟨?_, stk_pa S.2 (Nat.le_refl _)⟩ (by rw [List.length_cons]; omega)
        rw [pa_same]
      · obtain ⟨x, y, q, rfl, rfl, hg⟩ := stp_2 (by omega) c9 e1
        rw [List.length_cons, List.length_cons] at hop
        have ei : zI (((y :: x :: q).length : Nat) : Int) + -1 = zI ((q.length + 1 : Nat) : Int) := by rw [show (-1 : Int32) = zI (-1) from by decide, zI_add, List.length_cons, List.length_cons]; congr 1; omega
        have ej : zI ((q.length + 1 : Nat) : Int) - 1 = zI (q.length : Int) := by rw [show (1 : Int32) = zI 1 from by decide, zI_sub]; congr 1; omega
        refine ⟨fun z => absurd (n9.mp z) c9, fun _ => ?_⟩
        have s1 : hp.2.1 10 (q.length + 1) = zI y := S.1
        obtain ⟨w1, w2⟩ := wk_m (k := t.1) (by omega) hg
        rw [ei, ej, zI_cN (by omega), zI_cN (by omega), s1, S.2.1, w2]
        refine ⟨vp_N (by omega) (by omega), vp_N (by omega) (by omega), w1, ?_⟩
        refine ih' _ (fr.pa (by decide)) ⟨?_, stk_pa S.2.2 (Nat.le_refl _)⟩ (by rw [List.length_cons]; omega)
        rw [pa_same]

/-! worth of a light, both sides -/
def val (L : Nat → Int) (t : List Tk) : Int := match run L t [] with
  | some (v :: _) => v
  | _ => 0
def wrt (L : Nat → Int) : List Cl → Int
  | [] => 0
  | c :: r => if c.1 = [] ∨ ¬ val L c.1 = 0 then val L c.2 else wrt L r
theorem vS_val {L : Nat → Int} (hL : LOkL L) {t : List Tk} (h : vS t) : run L t [] = some [val L t] ∧ -1000000 ≤ val L t ∧ val L t ≤ 1000000 := by
  obtain ⟨v, v1, v2⟩ := h.2.2 L hL
  have e : val L t = v := by unfold val; rw [v2]
  rw [e]; exact ⟨v2 [], v1⟩
theorem vC_val {L : Nat → Int} (hL : LOkL L) {t : List Tk} (h : vC t) : run L t [] = some [val L t] ∧ (val L t = 0 ∨ val L t = 1) := by
  obtain ⟨v, v1, v2⟩ := h.2.2 L hL
  have e : val L t = v := by unfold val; rw [v2]
  rw [e]; exact ⟨v2 [], v1⟩
theorem wrt_bd {L : Nat → Int} (hL : LOkL L) : ∀ {cs : List Cl}, (∀ c ∈ cs, wfC c) → -1000000 ≤ wrt L cs ∧ wrt L cs ≤ 1000000
  | [], _ => by unfold wrt; omega
  | c :: r, h => by
    unfold wrt
    split
    · exact (vS_val hL (h c List.mem_cons_self).1).2
    · exact wrt_bd hL (fun c' hc => h c' (List.mem_cons_of_mem _ hc))
theorem fl_pre : ∀ (b a : List Cl), ∃ z, flA (a ++ b) = flA a ++ z
  | [], a => ⟨[], by rw [List.append_nil, List.append_nil]⟩
  | c :: b, a => by
    obtain ⟨z, hz⟩ := fl_pre b (a ++ [c])
    refine ⟨clF (flA a).length c ++ z, ?_⟩
    rw [show a ++ c :: b = (a ++ [c]) ++ b from by simp, hz, flA_app, List.append_assoc]
theorem ml_pre : ∀ (b a : List Cl), ∃ z, mlT (a ++ b) = mlT a ++ z
  | [], a => ⟨[], by rw [List.append_nil, List.append_nil]⟩
  | c :: b, a => by
    obtain ⟨z, hz⟩ := ml_pre b (a ++ [c])
    refine ⟨(c.1 ++ c.2) ++ z, ?_⟩
    rw [show a ++ c :: b = (a ++ [c]) ++ b from by simp, hz, mlT_app, List.append_assoc]
theorem fl_at {a b : List Cl} {c : Cl} {i : Nat} {t : Tk} (h : (clF (flA a).length c)[i]? = some t) : (flA (a ++ c :: b))[(flA a).length + i]? = some t := by
  obtain ⟨z, hz⟩ := fl_pre b (a ++ [c])
  rw [show a ++ c :: b = (a ++ [c]) ++ b from by simp, hz, flA_app, List.append_assoc, List.getElem?_append_right (by omega), show (flA a).length + i - (flA a).length = i from by omega]
  have := (List.getElem?_eq_some_iff.mp h).1
  rw [List.getElem?_append_left this]; exact h
theorem ml_at {a b : List Cl} {c : Cl} {i : Nat} {t : Tk} (h : (c.1 ++ c.2)[i]? = some t) : (mlT (a ++ c :: b))[(mlT a).length + i]? = some t := by
  obtain ⟨z, hz⟩ := ml_pre b (a ++ [c])
  rw [show a ++ c :: b = (a ++ [c]) ++ b from by simp, hz, mlT_app, List.append_assoc, List.getElem?_append_right (by omega), show (mlT a).length + i - (mlT a).length = i from by omega]
  have := (List.getElem?_eq_some_iff.mp h).1
  rw [List.getElem?_append_left this]; exact h
theorem fl_le {a b : List Cl} {c : Cl} : (flA a).length + (clF (flA a).length c).length ≤ (flA (a ++ c :: b)).length := by
  obtain ⟨z, hz⟩ := fl_pre b (a ++ [c])
  rw [show a ++ c :: b = (a ++ [c]) ++ b from by simp, hz, flA_app, List.length_append, List.length_append]; omega
theorem len1 (v : Int) : zI ((([v] : List Int).length : Nat) : Int) = (1 : Int32) := by rw [List.length_singleton]; decide
theorem sg13 : zI (sgC 13 : Nat) = 59 := by decide
theorem sg12 : zI (sgC 12 : Nat) = 63 := by decide
section WTH
variable {G : rx_Gh} {F : Int32 → rx_Hp → Prop}
/-- the class at the end of a sum -/
theorem we_c {o : Nat} (ho : isL o) {T : List Tk} {hc : rx_Hp} (hT : T.length ≤ 160) (hl : hc.1 o 2 = zI (T.length : Nat)) (ht : ∀ i t, T[i]? = some t → hc.2.1 (o + 1) i = zI (sgC t.1 : Nat) ∧ hc.2.1 (o + 2) i = zI (t.2 : Nat)) {p x : Nat} (hp : T[p]? = some (13, x)) {v : Int} {h' : rx_Hp} (f : Fr [] [36] hc h') (S : Stk (h'.2.1 36) [v]) (K : F (zI v) h') : Rn wC G 4 q_Li_worth 5 [some (.ref o), some (.ref 35), some (.ref 36), some (.int (zI (([v] : List Int).length : Nat))), some (.int (zI (p : Nat))), none] [] h' (rI F) := by
  have o1 := isL_ge ho
  have o2 := isL_le ho
  have hpl : p < T.length := (List.getElem?_eq_some_iff.mp hp).1
  have g1 : h'.2.1 (o + 1) p = zI (sgC 13 : Nat) := by rw [f.2.1 (o + 1) (by simp; omega)]; exact (ht p _ hp).1
  have g3 : h'.1 o 2 = zI (T.length : Nat) := by rw [f.1 o 2 (by simp)]; exact hl
  have hcn : ¬ zI (T.length : Nat) ≤ zI (p : Int) := by rw [zI_le (by omega) (by omega)]; omega
  have s1 : h'.2.1 36 0 = zI v := S.1
  refine w_Li_worth_5 _ _ ho ?_
  rw [zI_cN (by omega), g1, g3, sg13, len1 v]
  refine ⟨fun c => absurd c hcn, fun _ => ⟨vp_N (by omega) (by omega), fun c => absurd c (by decide), fun _ => ⟨fun c => absurd c (by decide), fun _ => ⟨fun _ => ⟨fun _ => ⟨by rw [show (1 : Int32) - 1 = zI ((0 : Nat) : Int) from by decide]; exact vp_N (by omega) (by omega), ?_⟩, fun c => absurd rfl c⟩, fun c => absurd (by decide) c⟩⟩⟩⟩
  rw [show ((1 : Int32) - 1).toNatClampNeg = 0 from by decide, s1]; exact K
/-- the class behind a condition -/
theorem wi_c {o : Nat} (ho : isL o) {T : List Tk} {hc : rx_Hp} (hT : T.length ≤ 160) (hl : hc.1 o 2 = zI (T.length : Nat)) (ht : ∀ i t, T[i]? = some t → hc.2.1 (o + 1) i = zI (sgC t.1 : Nat) ∧ hc.2.1 (o + 2) i = zI (t.2 : Nat)) {p x : Nat} (hp : T[p]? = some (12, x)) (hx : p ≤ x ∧ x < 1000) {v : Int} (hv : v = 0 ∨ v = 1) {h' : rx_Hp} (f : Fr [] [36] hc h') (S : Stk (h'.2.1 36) [v]) (K0 : v = 0 → Rn wC G 4 q_Li_worth 5 [some (.ref o), some (.ref 35), some (.ref 36), some (.int (zI ((0 : Nat) : Int))), some (.int (zI ((x + 1 : Nat) : Int))), none] [] h' (rI F)) (K1 : ¬ v = 0 → Rn wC G 4 q_Li_worth 5 [some (.ref o), some (.ref 35), some (.ref 36), some (.int (zI ((0 : Nat) : Int))), some (.int (zI ((p + 1 : Nat) : Int))), none] [] h' (rI F)) : Rn wC G 4 q_Li_worth 5 [some (.ref o), some (.ref 35), some (.ref 36), some (.int (zI (([v] : List Int).length : Nat))), some (.int (zI (p : Nat))), none] [] h' (rI F) := by
  have o1 := isL_ge ho
  have o2 := isL_le ho
  have hpl : p < T.length := (List.getElem?_eq_some_iff.mp hp).1
  have g1 : h'.2.1 (o + 1) p = zI (sgC 12 : Nat) := by rw [f.2.1 (o + 1) (by simp; omega)]; exact (ht p _ hp).1
  have g2 : h'.2.1 (o + 2) p = zI (x : Nat) := by rw [f.2.1 (o + 2) (by simp; omega)]; exact (ht p _ hp).2
  have g3 : h'.1 o 2 = zI (T.length : Nat) := by rw [f.1 o 2 (by simp)]; exact hl
  have hcn : ¬ zI (T.length : Nat) ≤ zI (p : Int) := by rw [zI_le (by omega) (by omega)]; omega
  have s1 : h'.2.1 36 0 = zI v := S.1
  refine w_Li_worth_5 _ _ ho ?_
  rw [zI_cN (by omega), g1, g2, g3, sg12, len1 v, show (1 : Int32) + -1 = zI ((0 : Nat) : Int) from by decide]
  refine ⟨fun c => absurd c hcn, fun _ => ⟨vp_N (by omega) (by omega), fun c => absurd c (by decide), fun _ => ⟨fun c => absurd c (by decide), fun _ => ⟨fun _ => ⟨fun c => absurd c (by decide), fun _ => ⟨fun c => absurd c (by decide), fun _ => ⟨fun _ => ⟨vp_N (by omega) (by omega), ?_⟩, fun c => absurd rfl c⟩⟩⟩, fun c => absurd (by decide) c⟩⟩⟩⟩
  rw [show (zI ((0 : Nat) : Int)).toNatClampNeg = 0 from by decide, s1]
  rcases hv with rfl | rfl
  · have K0 := K0 rfl
    rw [if_pos (show zI 0 = (0 : Int32) from by decide)]
    have em : f_Mt_max (zI (p : Int)) (zI (x : Int)) = zI (x : Int) := by
      unfold f_Mt_max
      by_cases c : p < x
      · rw [if_pos (by rw [zI_lt (by omega) (by omega)]; omega)]
      · rw [if_neg (by rw [zI_lt (by omega) (by omega)]; omega)]; congr 1; omega
    rw [em, show zI (x : Int) + 1 = zI ((x + 1 : Nat) : Int) from zI_add _ 1]; exact K0
  · have K1 := K1 (by decide)
    rw [if_neg (show ¬ zI 1 = (0 : Int32) from by decide), show zI (p : Int) + 1 = zI ((p + 1 : Nat) : Int) from zI_add _ 1]; exact K1
theorem wk_c {o : Nat} (ho : isL o) {cs : List Cl} (hw : wfL cs) {L : Nat → Int} (oL : LOkL L) {hc : rx_Hp} (hl : LtC o cs hc) (hL : ∀ l, l < 6 → hc.2.1 35 l = zI (L l)) : ∀ (rest done : List Cl) (hp : rx_Hp), cs = done ++ rest → Fr [] [36] hc hp → (∀ h', Fr [] [36] hc h' → F (zI (wrt L rest)) h') → Rn wC G 4 q_Li_worth 5 [some (.ref o), some (.ref 35), some (.ref 36), some (.int (zI ((0 : Nat) : Int))), some (.int (zI ((flA done).length : Nat))), none] [] hp (rI F) := by
  intro rest
  obtain ⟨w1, w2, w3⟩ := hw
  induction rest with
  | nil =>
    intro done hp e f K
    rw [List.append_nil] at e
    subst e
    refine w_Li_worth_5 _ _ ho ?_
    rw [f.1 o 2 (by simp), hl.1]
    exact ⟨fun _ => K hp f, fun c => absurd (by rw [zI_le (by omega) (by omega)]; omega) c⟩
  | cons c r ih =>
    intro done hp e f K
    have hc := w1 c (by rw [e]; simp)
    have fle := fl_le (a := done) (b := r) (c := c)
    rw [← e] at fle
    obtain ⟨s1, s2⟩ := vS_val oL hc.1
    have hat : ∀ i t, (clF (flA done).length c)[i]? = some t → (flA cs)[(flA done).length + i]? = some t := fun i t h => by rw [e]; exact fl_at h
    by_cases c0 : c.1 = []
    · have ecl : clF (flA done).length c = c.2 ++ [(13, 0)] := by unfold clF; rw [if_pos c0]
      rw [ecl] at hat fle
      rw [List.length_append, List.length_singleton] at fle
      have ob := ob_len c.2
      have ew : wrt L (c :: r) = val L c.2 := by unfold wrt; rw [if_pos (Or.inl c0)]
      rw [ew] at K
      refine ex_c ho w2 hl.1 hl.2 hL c.2 (flA done).length [] [val L c.2] hp (fun i t h => hat i t ?_) hc.1.1 s1 (by rw [List.length_nil]; omega) f trivial (fun h' f' S' => ?_)
      · rw [List.getElem?_append_left (List.getElem?_eq_some_iff.mp h).1]; exact h
      · refine we_c ho w2 hl.1 hl.2 (x := 0) (hat c.2.length (13, 0) ?_) f' S' (K h' f')
        rw [List.getElem?_append_right (Nat.le_refl _), Nat.sub_self]; rfl
    · have hC := hc.2.resolve_left c0
      obtain ⟨t1, t2⟩ := vC_val oL hC
      have ecl : clF (flA done).length c = c.1 ++ ((12, (flA done).length + c.1.length + 1 + c.2.length) :: (c.2 ++ [(13, 0)])) := by unfold clF; rw [if_neg c0]
      have e1 : (flA (done ++ [c])).length = (flA done).length + c.1.length + 1 + c.2.length + 1 := by rw [flA_app, ecl]; simp; omega
      rw [ecl] at hat fle
      rw [List.length_append, List.length_cons, List.length_append, List.length_singleton] at fle
      have ob := ob_len c.1
      have ob2 := ob_len c.2
      refine ex_c ho w2 hl.1 hl.2 hL c.1 (flA done).length [] [val L c.1] hp (fun i t h => hat i t ?_) hC.1 t1 (by rw [List.length_nil]; omega) f trivial (fun h' f' S' => ?_)
      · rw [List.getElem?_append_left (List.getElem?_eq_some_iff.mp h).1]; exact h
      · refine wi_c ho w2 hl.1 hl.2 (x := (flA done).length + c.1.length + 1 + c.2.length) (hat c.1.length _ ?_) ⟨by omega, by omega⟩ t2 f' S' (fun z => ?_) (fun z => ?_)
        · rw [List.getElem?_append_right (Nat.le_refl _), Nat.sub_self]; rfl
        · have ew : wrt L (c :: r) = wrt L r := by unfold wrt; rw [if_neg (fun q => by rcases q with q | q; exact c0 q; exact q z)]; cases r <;> rfl
          rw [ew] at K
          rw [← e1]
          exact ih (done ++ [c]) h' (by rw [e]; simp) f' K
        · have ew : wrt L (c :: r) = val L c.2 := by unfold wrt; rw [if_pos (Or.inr z)]
          rw [ew] at K
          have hat2 : ∀ i t, (c.2 ++ [(13, 0)])[i]? = some t → (flA cs)[(flA done).length + c.1.length + 1 + i]? = some t := by
            intro i t h
            rw [show (flA done).length + c.1.length + 1 + i = (flA done).length + (c.1.length + (i + 1)) from by omega]
            refine hat _ _ ?_
            rw [List.getElem?_append_right (by omega), show c.1.length + (i + 1) - c.1.length = i + 1 from by omega]; exact h
          refine ex_c ho w2 hl.1 hl.2 hL c.2 ((flA done).length + c.1.length + 1) [] [val L c.2] h' (fun i t h => hat2 i t ?_) hc.1.1 s1 (by rw [List.length_nil]; omega) f' trivial (fun h2 f2 S2 => ?_)
          · rw [List.getElem?_append_left (List.getElem?_eq_some_iff.mp h).1]; exact h
          · refine we_c ho w2 hl.1 hl.2 (x := 0) (hat2 c.2.length (13, 0) ?_) f2 S2 (K h2 f2)
            rw [List.getElem?_append_right (Nat.le_refl _), Nat.sub_self]; rfl
theorem wo_c {o : Nat} (ho : isL o) {cs : List Cl} (hw : wfL cs) {L : Nat → Int} (oL : LOkL L) {hc : rx_Hp} (hl : LtC o cs hc) (hL : ∀ l, l < 6 → hc.2.1 35 l = zI (L l)) (K : ∀ h', Fr [] [36] hc h' → F (zI (wrt L cs)) h') : Ev wC G 4 q_Li_worth [.ref o, .ref 35, .ref 36] hc (rI F) :=
  w_Li_worth o ho (wk_c ho hw oL hl hL cs [] hc rfl Fr.rf K)
/-- the model works a part of a law out -/
theorem wp_m {r : Nat} (hr : r < 5) {T : List Tk} {L : Nat → Int} {hm : rx_Hp} (ht : ∀ i t, T[i]? = some t → hm.2.1 2 (340 * r + i) = zI (t.1 : Nat) ∧ hm.2.1 3 (340 * r + i) = zI (t.2 : Nat)) (hL : ∀ l, l < 6 → hm.2.1 9 l = zI (L l)) {ts : List Tk} {p n : Nat} (hn : n ≤ 340) (hpn : p + ts.length = n) (hT : ∀ i t, ts[i]? = some t → T[p + i]? = some t) (hk : ∀ t ∈ ts, tkOk t) {v : Int} (hv : run L ts [] = some [v]) (ho : opn ts ≤ 80) {hp : rx_Hp} (f : Fr [] [10] hm hp) (K : ∀ h', Fr [] [10] hm h' → F (zI v) h') : Ev wM G 4 q_M_workOut [.ref 0, .int (zI (r : Nat)), .int (zI (p : Nat)), .int (zI (n : Nat))] hp (rI F) := by
  refine w_M_workOut _ _ _ ?_
  have e : (340 : Int32) * zI (r : Int) + zI (p : Int) = zI ((340 * r + p : Nat) : Int) := by
    rw [show (340 : Int32) = zI 340 from by decide, zI_mul, zI_add]; congr 1
  rw [e]
  have := ex_m (G := G) (F := F) hr hn ht hL ts p [] v hp hpn hT hk hv (by rw [List.length_nil]; omega) f trivial K
  exact this
theorem wkk_m {r : Nat} (hr : r < 5) {cs : List Cl} (hw : wfL cs) {L : Nat → Int} (oL : LOkL L) {hm : rx_Hp} (hl : LtM r cs hm) (hL : ∀ l, l < 6 → hm.2.1 9 l = zI (L l)) : ∀ (rest done : List Cl) (hp : rx_Hp), cs = done ++ rest → Fr [] [10] hm hp → (∀ h', Fr [] [10] hm h' → F (zI (wrt L rest)) h') → Rn wM G 5 q_M_worthOf 5 [some (.ref 0), some (.int (zI (r : Nat))), some (.int (zI ((90 * r + done.length : Nat) : Int)))] [] hp (rI F) := by
  intro rest
  obtain ⟨w1, w2, w3⟩ := hw
  obtain ⟨⟨l1, l2⟩, l3⟩ := hl
  have en : (90 : Int32) * zI (r : Int) + zI (cs.length : Int) = zI ((90 * r + cs.length : Nat) : Int) := by
    rw [show (90 : Int32) = zI 90 from by decide, zI_mul, zI_add]; congr 1
  induction rest with
  | nil =>
    intro done hp e f K
    rw [List.append_nil] at e
    subst e
    refine w_M_worthOf_5 _ _ ⟨vp_N (by omega) (by omega), ?_⟩
    rw [f.2.1 5 (by decide), zI_cN (by omega), l1, en]
    exact ⟨fun _ => K hp f, fun c => absurd (by rw [zI_le (by omega) (by omega)]; omega) c⟩
  | cons c rs ih =>
    intro done hp e f K
    have hc := w1 c (by rw [e]; simp)
    obtain ⟨s1, s2⟩ := vS_val oL hc.1
    have hd : done.length < cs.length := by rw [e]; simp
    have hj : cs[done.length]? = some c := by rw [e, List.getElem?_append_right (Nat.le_refl _), Nat.sub_self]; rfl
    have etk : cs.take done.length = done := by rw [e]; simp
    have hm' := l2 done.length c hj
    rw [etk] at hm'
    have mle := mlT_le cs
    have mz : (mlT done).length + c.1.length + c.2.length ≤ (mlT cs).length := by
      obtain ⟨z, hz⟩ := ml_pre rs (done ++ [c])
      rw [e, show done ++ c :: rs = (done ++ [c]) ++ rs from by simp, hz, mlT_app, List.length_append, List.length_append, List.length_append]; omega
    have hat : ∀ i t, (c.1 ++ c.2)[i]? = some t → (mlT cs)[(mlT done).length + i]? = some t := fun i t h => by rw [e]; exact ml_at h
    have hat1 : ∀ i t, c.1[i]? = some t → (mlT cs)[(mlT done).length + i]? = some t := fun i t h => hat i t (by rw [List.getElem?_append_left (List.getElem?_eq_some_iff.mp h).1]; exact h)
    have hat2 : ∀ i t, c.2[i]? = some t → (mlT cs)[(mlT done).length + c.1.length + i]? = some t := fun i t h => by
      rw [Nat.add_assoc]
      refine hat _ t ?_
      rw [List.getElem?_append_right (by omega), show c.1.length + i - c.1.length = i from by omega]; exact h
    have ob2 := ob_len c.2
    have on2 := hc.1.2.1
    have hx : ∀ hq, Fr [] [10] hm hq → hq.2.1 6 (90 * r + done.length) = zI ((mlT done).length : Nat) ∧ hq.2.1 7 (90 * r + done.length) = zI (((mlT done).length + c.1.length : Nat) : Int) ∧ hq.2.1 8 (90 * r + done.length) = zI (((mlT done).length + c.1.length + c.2.length : Nat) : Int) := by
      intro hq fq
      rw [fq.2.1 6 (by decide), fq.2.1 7 (by decide), fq.2.1 8 (by decide)]; exact hm'
    obtain ⟨x6, x7, x8⟩ := hx hp f
    refine w_M_worthOf_5 _ _ ⟨vp_N (by omega) (by omega), ?_⟩
    rw [f.2.1 5 (by decide), zI_cN (by omega), zI_cN (by omega), l1, en, x6, x7, x8]
    refine ⟨fun q => absurd q (by rw [zI_le (by omega) (by omega)]; omega), fun _ => ⟨vp_N (by omega) (by omega), fun q => ?_, fun q => ?_⟩⟩
    · rw [zI_eq (by omega) (by omega)] at q
      have c0 : c.1 = [] := List.eq_nil_of_length_eq_zero (by omega)
      have ew : wrt L (c :: rs) = val L c.2 := by unfold wrt; rw [if_pos (Or.inl c0)]
      rw [ew] at K
      exact wp_m hr l3 hL (by omega) rfl hat2 hc.1.1 s1 (by omega) f K
    · have c0 : ¬ c.1 = [] := fun z => q (by rw [z]; rfl)
      have hC := hc.2.resolve_left c0
      obtain ⟨t1, t2⟩ := vC_val oL hC
      have ob := ob_len c.1
      have on := hC.2.1
      refine wp_m hr l3 hL (by omega) rfl hat1 hC.1 t1 (by omega) f (fun h' f' => ⟨fun z => ?_, fun z => ?_⟩)
      · have z0 : val L c.1 = 0 := by
          rcases t2 with t2 | t2
          · exact t2
          · rw [t2] at z; exact absurd z (by decide)
        have ew : wrt L (c :: rs) = wrt L rs := by unfold wrt; rw [if_neg (fun q => by rcases q with q | q; exact c0 q; exact q z0)]; cases rs <;> rfl
        rw [ew] at K
        have := ih (done ++ [c]) h' (by rw [e]; simp) f' K
        rw [show zI ((90 * r + done.length : Nat) : Int) + 1 = zI ((90 * r + (done ++ [c]).length : Nat) : Int) from by rw [List.length_append, List.length_singleton]; exact zI_add _ 1]
        exact this
      · have z0 : ¬ val L c.1 = 0 := fun y => z (by rw [y]; decide)
        have ew : wrt L (c :: rs) = val L c.2 := by unfold wrt; rw [if_pos (Or.inr z0)]
        rw [ew] at K
        obtain ⟨y6, y7, y8⟩ := hx h' f'
        rw [y7, y8]
        exact wp_m hr l3 hL (by omega) rfl hat2 hc.1.1 s1 (by omega) f' K
theorem wo_m {r : Nat} (hr : r < 5) {cs : List Cl} (hw : wfL cs) {L : Nat → Int} (oL : LOkL L) {hm : rx_Hp} (hl : LtM r cs hm) (hL : ∀ l, l < 6 → hm.2.1 9 l = zI (L l)) (K : ∀ h', Fr [] [10] hm h' → F (zI (wrt L cs)) h') : Ev wM G 5 q_M_worthOf [.ref 0, .int (zI (r : Nat))] hm (rI F) := by
  refine w_M_worthOf _ ?_
  have := wkk_m (G := G) (F := F) hr hw oL hl hL cs [] hm rfl Fr.rf K
  rw [show (90 : Int32) * zI (r : Int) = zI ((90 * r + ([] : List Cl).length : Nat) : Int) from by rw [show (90 : Int32) = zI 90 from by decide, zI_mul]; congr 1]
  exact this
end WTH

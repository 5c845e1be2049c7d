/-! hinge: the model against its marks -/
theorem flo_z0 : ∀ k : Fin 2000, f_Mt_floorMod (zI ((k : Nat) - 1000)) 360 = zI ((((k : Nat) : Int) - 1000) % 360) := by decide +kernel
theorem flo_z {x : Int} (h1 : -1000 ≤ x) (h2 : x < 1000) : f_Mt_floorMod (zI x) 360 = zI (x % 360) := by
  have h := flo_z0 ⟨(x + 1000).toNat, by omega⟩
  simp only at h
  rwa [show (((x + 1000).toNat : Nat) : Int) - 1000 = x by omega] at h
theorem zI_par {m : Nat} (h : m < 2147483648) : zI (m : Int) - zI (m : Int) / 2 * 2 = zI ((m % 2 : Nat) : Int) := by
  rw [show (2 : Int32) = zI 2 from by decide, zI_div (by omega) (by omega), zI_mul, zI_sub]
  congr 1
  rw [Int.tdiv_eq_ediv_of_nonneg (by omega)]
  omega
/-! the model's marks -/
def mkZ (ms : List (Nat × Nat)) (k : Nat) : Int32 := match ms.find? (fun x => x.1 == k) with
  | some x => zI (x.2 : Nat)
  | none => -1
def dsM : List (Nat × Nat) → Prop
  | [] => True
  | x :: r => (r.find? (fun y => y.1 == x.1) = none) ∧ x.1 < 360 ∧ x.2 ≤ 1 ∧ dsM r
def reM (S c v : Nat) (ms : List (Nat × Nat)) : Prop := (∀ q, Nat.testBit S q = (ms.find? (fun x => x.1 == q)).isSome) ∧ c = ms.length ∧ v = (ms.map (fun x => x.2)).sum
theorem reM_put {S c v q w : Nat} {ms : List (Nat × Nat)} (h : reM S c v ms) : reM (S ||| (1 <<< q)) (c + 1) (v + w) ((q, w) :: ms) := by
  refine ⟨fun k => ?_, by rw [h.2.1]; rfl, by rw [h.2.2]; simp; omega⟩
  rw [Nat.testBit_or, Nat.one_shiftLeft, Nat.testBit_two_pow, h.1 k, List.find?_cons]
  by_cases e : q = k
  · subst e; simp
  · have : (q == k) = false := by simpa using e
    rw [this, decide_eq_false e, Bool.or_false]
theorem mkZ_neg {ms : List (Nat × Nat)} (h : dsM ms) (k : Nat) : (mkZ ms k = -1 ↔ ms.find? (fun x => x.1 == k) = none) := by
  unfold mkZ
  cases e : ms.find? (fun x => x.1 == k) with
  | none => simp
  | some x =>
    simp only [reduceCtorEq, iff_false]
    have hx : x ∈ ms := List.mem_of_find?_eq_some e
    have hv : ∀ (l : List (Nat × Nat)), dsM l → ∀ y ∈ l, y.2 ≤ 1 := by
      intro l
      induction l with
      | nil => intro _ y hy; cases hy
      | cons z r ih =>
        intro hd y hy
        rcases List.mem_cons.mp hy with rfl | hy
        · exact hd.2.2.1
        · exact ih hd.2.2.2 y hy
    have := hv ms h x hx
    rw [show (-1 : Int32) = zI (-1) from by decide, zI_eq (by omega) (by omega)]
    omega
theorem mkZ_put {ms : List (Nat × Nat)} {q v k : Nat} : mkZ ((q, v) :: ms) k = if k = q then zI v else mkZ ms k := by
  unfold mkZ
  simp only [List.find?_cons]
  by_cases hk : k = q
  · subst hk; simp
  · rw [if_neg hk]
    have : (q == k) = false := by simp; omega
    rw [this]
section HNG
theorem b2_if {b : Bool} {α : Type} (x y : α) : (if b2 b = 0 then x else y) = if b = true then y else x := by cases b <;> simp [b2]
theorem th_m {G : rx_Gh} {F : rx_Hp → Prop} {a : Nat} (ha : a ≤ 180) : ∀ (f at_ : Nat) (first : Bool) (n S c v : Nat) (ms : List (Nat × Nat)) (hm : rx_Hp) (r : Nat × Nat × Nat), hfRow a f at_ first n S c v = some r → reM S c v ms → at_ < 360 → n + f ≤ 200 → dsM ms → (∀ k, k < 360 → hm.2.1 20 k = mkZ ms k) → (∀ h' ms', Fr [] [20] hm h' → reM r.1 r.2.1 r.2.2 ms' → dsM ms' → (∀ k, k < 360 → h'.2.1 20 k = mkZ ms' k) → F h') → Rn wM G 2 q_M_throwOn 12 [some (.ref 0), some (.int (zI a)), none, none, some (.int (zI at_)), some (.int (b2 first)), some (.int (zI n)), some (.int 1), none] [] hm (rV F) := by
  intro f
  induction f with
  | zero => intro at_ first n S c v ms hm r h; cases h
  | succ f ih =>
    intro at_ first n S c v ms hm r h hre hat hn hd hk K
    rw [hfRow] at h
    have eA : f_Mt_floorMod ((if b2 first = 0 then ((zI (at_ : Int) - zI (a : Int)) + 180) else zI (at_ : Int)) : Int32) 360 = zI ((hgAh a at_ first : Nat) : Int) := by
      rw [b2_if]
      unfold hgAh
      cases first with
      | true => simp only [if_true, cond_true]; rw [flo_z (by omega) (by omega)]; rfl
      | false =>
        simp only [Bool.false_eq_true, if_false, cond_false]
        rw [show (180 : Int32) = zI 180 from by decide, zI_sub, zI_add, flo_z (by omega) (by omega)]
        congr 1; omega
    have eN : f_Mt_floorMod ((if b2 first = 0 then ((2 * zI (a : Int)) - zI (at_ : Int)) else (-zI (at_ : Int))) : Int32) 360 = zI ((hgNx a at_ first : Nat) : Int) := by
      rw [b2_if]
      unfold hgNx
      cases first with
      | true =>
        simp only [if_true, cond_true]
        rw [zI_neg, flo_z (by omega) (by omega)]
        congr 1; omega
      | false =>
        simp only [Bool.false_eq_true, if_false, cond_false]
        rw [show (2 : Int32) = zI 2 from by decide, zI_mul, zI_sub, flo_z (by omega) (by omega)]
        congr 1; omega
    have hA : hgAh a at_ first < 360 := Nat.mod_lt _ (by omega)
    have hN : hgNx a at_ first < 360 := Nat.mod_lt _ (by omega)
    have n360 : ¬ (360 : Int32) = 0 := by decide
    refine w_M_throwOn_12 _ _ _ _ _ ⟨fun c => absurd c (by decide), fun _ => ?_⟩
    rw [eA, eN]
    have cg : ((if zI ((hgAh a at_ first : Nat) : Int) ≤ 0 then 0 else ((if 180 ≤ zI ((hgAh a at_ first : Nat) : Int) then 0 else 1) : Int32)) : Int32) = b2 (Nat.ble 1 (hgAh a at_ first) && Nat.ble (hgAh a at_ first) 179) := by
      have r1 : zI ((hgAh a at_ first : Nat) : Int) ≤ 0 ↔ hgAh a at_ first = 0 := by
        have := zI_le (a := ((hgAh a at_ first : Nat) : Int)) (b := 0) (by omega) (by omega)
        exact this.trans (by omega)
      have r2 : 180 ≤ zI ((hgAh a at_ first : Nat) : Int) ↔ 180 ≤ hgAh a at_ first := by
        have := zI_le (a := 180) (b := ((hgAh a at_ first : Nat) : Int)) (by omega) (by omega)
        exact this.trans (by omega)
      by_cases q1 : hgAh a at_ first = 0
      · rw [if_pos (r1.mpr q1), q1]; rfl
      · rw [if_neg (mt r1.mp q1)]
        by_cases q2 : 180 ≤ hgAh a at_ first
        · rw [if_pos (r2.mpr q2)]
          have : Nat.ble (hgAh a at_ first) 179 = false := by
            cases z : Nat.ble (hgAh a at_ first) 179 with
            | false => rfl
            | true => have := Nat.le_of_ble_eq_true z; omega
          rw [this, Bool.and_false]; rfl
        · rw [if_neg (mt r2.mp q2), Nat.ble_eq_true_of_le (show 1 ≤ hgAh a at_ first by omega), Nat.ble_eq_true_of_le (show hgAh a at_ first ≤ 179 by omega)]; rfl
    rw [cg]
    refine ⟨n360, fun c => ?_, fun c => ?_⟩
    · have c := (b2_0 _).mp c
      rw [c] at h ⊢
      have h : some (S, _, v) = some r := h
      have hr := Option.some.inj h
      subst hr
      refine w_M_throwOn_12 _ _ _ _ _ ⟨fun _ => ?_, fun c => absurd rfl c⟩
      exact K hm ms Fr.rf hre hd hk
    · have c := b2_t c
      rw [c, cond_true] at h
      rw [c]
      have e1 : ((if b2 first = 0 then 1 else 0) : Int32) = b2 (!first) := by cases first <;> rfl
      have e2 : zI (n : Int) + 1 = zI ((n + 1 : Nat) : Int) := zI_add n 1
      rw [e1, e2, zI_cN (by omega), hk _ hN, zI_par (by omega)]
      refine ⟨n360, vp_N hN (by omega), fun d => ?_, fun d => ?_⟩
      · have d := (mkZ_neg hd _).mp d
        rw [hre.1, d, Option.isSome_none, cond_false] at h
        refine ih _ _ _ _ _ _ _ _ r h (reM_put hre) hN (by omega) ⟨d, hN, by show (n + 1) % 2 ≤ 1; omega, hd⟩ (fun k hk2 => ?_) (fun h' ms' f' => K h' ms' (Fr.tr (Fr.rf.pa (by decide)) f'))
        rw [mkZ_put]
        by_cases q : k = hgNx a at_ first
        · subst q; rw [pa_same, if_pos rfl]
        · rw [pa_ne _ _ (by simp [q]), if_neg q]; exact hk k hk2
      · have d := mt (mkZ_neg hd _).mpr d
        cases e : ms.find? (fun x => x.1 == hgNx a at_ first) with
        | none => exact absurd e d
        | some y =>
          rw [hre.1, e, Option.isSome_some, cond_true] at h
          exact ih _ _ _ _ _ _ _ _ r h hre hN (by omega) hd hk K
/-! counting the marks -/
def cnM (k : Nat) : List (Nat × Nat) → Nat
  | [] => 0
  | x :: r => (if x.1 < k then 1 else 0) + cnM k r
def smM (k : Nat) : List (Nat × Nat) → Nat
  | [] => 0
  | x :: r => (if x.1 < k then x.2 else 0) + smM k r
theorem cnM_no {k : Nat} : ∀ {ms : List (Nat × Nat)}, ms.find? (fun x => x.1 == k) = none → cnM (k + 1) ms = cnM k ms ∧ smM (k + 1) ms = smM k ms
  | [], _ => ⟨rfl, rfl⟩
  | x :: r, h => by
    rw [List.find?_cons] at h
    cases e : (x.1 == k) with
    | true => rw [e] at h; cases h
    | false =>
      rw [e] at h
      have := cnM_no (ms := r) h
      have hx : ¬ x.1 = k := by simpa using e
      unfold cnM smM
      rw [this.1, this.2]
      by_cases q : x.1 < k
      · rw [if_pos q, if_pos (by omega), if_pos q, if_pos (by omega)]; exact ⟨rfl, rfl⟩
      · rw [if_neg q, if_neg (by omega), if_neg q, if_neg (by omega)]; exact ⟨rfl, rfl⟩
theorem cnM_yes {k : Nat} {y : Nat × Nat} : ∀ {ms : List (Nat × Nat)}, dsM ms → ms.find? (fun x => x.1 == k) = some y → cnM (k + 1) ms = cnM k ms + 1 ∧ smM (k + 1) ms = smM k ms + y.2
  | [], _, h => by cases h
  | x :: r, hd, h => by
    rw [List.find?_cons] at h
    cases e : (x.1 == k) with
    | true =>
      rw [e] at h
      have hy : x = y := Option.some.inj h
      subst hy
      have hx : x.1 = k := by simpa using e
      subst hx
      have := cnM_no hd.1
      unfold cnM smM
      rw [this.1, this.2, if_pos (by omega), if_neg (by omega), if_pos (by omega), if_neg (by omega)]
      omega
    | false =>
      rw [e] at h
      have := cnM_yes hd.2.2.2 h
      have hx : ¬ x.1 = k := by simpa using e
      unfold cnM smM
      rw [this.1, this.2]
      by_cases q : x.1 < k
      · rw [if_pos q, if_pos (by omega), if_pos q, if_pos (by omega)]; omega
      · rw [if_neg q, if_neg (by omega), if_neg q, if_neg (by omega)]; omega
theorem cnM_all : ∀ {ms : List (Nat × Nat)}, dsM ms → cnM 360 ms = ms.length ∧ smM 360 ms = (ms.map (fun x => x.2)).sum
  | [], _ => ⟨rfl, rfl⟩
  | x :: r, hd => by
    have := cnM_all hd.2.2.2
    unfold cnM smM
    rw [this.1, this.2, if_pos hd.2.1, if_pos hd.2.1]
    simp only [List.length_cons, List.map_cons, List.sum_cons]
    exact ⟨by omega, trivial⟩
theorem cnM_bd (k : Nat) : ∀ {ms : List (Nat × Nat)}, dsM ms → cnM k ms ≤ ms.length ∧ smM k ms ≤ ms.length
  | [], _ => ⟨Nat.le_refl _, Nat.le_refl _⟩
  | x :: r, hd => by
    have := cnM_bd k hd.2.2.2
    have h1 := hd.2.2.1
    unfold cnM smM
    simp only [List.length_cons]
    constructor
    · split <;> omega
    · split <;> omega
theorem lh_48 {G : rx_Gh} {F : rx_Hp → Prop} {p : Nat} (hp3 : p < 360) {ms : List (Nat × Nat)} (hd : dsM ms) (hne : ∀ x ∈ ms, ¬ x.1 = p) : ∀ (m k : Nat) (hm : rx_Hp), k + m = 360 → (∀ k, k < 360 → hm.2.1 20 k = mkZ ms k) → hm.1 0 38 = zI (cnM k ms : Nat) → hm.1 0 39 = zI (smM k ms : Nat) → (∀ h', Fr [(0, 38), (0, 39)] [] hm h' → h'.1 0 38 = zI (ms.length : Nat) → h'.1 0 39 = zI ((ms.map (fun x => x.2)).sum : Nat) → F h') → Rn wM G 3 q_M_layHinge 48 [some (.ref 0), none, some (.int (zI p)), some (.int (zI k))] [] hm (rV F) := by
  intro m
  induction m with
  | zero =>
    intro k hm hk hs h1 h2 K
    have hcn : 360 ≤ zI (k : Int) := by rw [show (360 : Int32) = zI 360 from by decide, zI_le (by omega) (by omega)]; omega
    refine w_M_layHinge_48 _ _ ⟨fun _ => ?_, fun c => absurd hcn c⟩
    obtain ⟨q1, q2⟩ := cnM_all hd
    rw [show k = 360 by omega] at h1 h2
    rw [q1] at h1
    rw [q2] at h2
    exact K hm Fr.rf h1 h2
  | succ m ih =>
    intro k hm hk hs h1 h2 K
    have hcn : ¬ 360 ≤ zI (k : Int) := by rw [show (360 : Int32) = zI 360 from by decide, zI_le (by omega) (by omega)]; omega
    refine w_M_layHinge_48 _ _ ⟨fun c => absurd c hcn, fun _ => ?_⟩
    rw [show zI (k : Int) + 1 = zI ((k + 1 : Nat) : Int) from zI_add k 1, zI_eq (by omega) (by omega), zI_cN (by omega), hs k (by omega)]
    have no : ms.find? (fun x => x.1 == k) = none → Rn wM G 3 q_M_layHinge 48 [some (.ref 0), none, some (.int (zI p)), some (.int (zI ((k + 1 : Nat) : Int)))] [] hm (rV F) := by
      intro e
      obtain ⟨q1, q2⟩ := cnM_no e
      exact ih (k + 1) hm (by omega) hs (by rw [q1]; exact h1) (by rw [q2]; exact h2) K
    refine ⟨fun c => no ?_, fun c => ⟨vp_N (by omega) (by omega), fun d => no ((mkZ_neg hd k).mp d), fun d => ?_⟩⟩
    · refine List.find?_eq_none.mpr (fun x hx => ?_)
      have := hne x hx
      simp; omega
    · have d := mt (mkZ_neg hd k).mpr d
      cases e : ms.find? (fun x => x.1 == k) with
      | none => exact absurd e d
      | some y =>
        obtain ⟨q1, q2⟩ := cnM_yes hd e
        have ey : mkZ ms k = zI (y.2 : Nat) := by unfold mkZ; rw [e]
        refine ih (k + 1) _ (by omega) (fun k' hk' => hs k' hk') ?_ ?_ (fun h' f' => K h' (Fr.tr ((Fr.rf.pf (by decide)).pf (by decide)) f'))
        · rw [pf_ne _ _ (by decide), pf_same, h1, q1]
          exact zI_add _ 1
        · rw [pf_same, h2, ey, q2, zI_add, Int.natCast_add]
def hgF : List (Nat × Nat) := [(0, 38), (0, 39)]
theorem lh_m {G : rx_Gh} {F : rx_Hp → Prop} {a p : Nat} (h1 : 1 ≤ p) (h2 : p < a) (h3 : a ≤ 180) {hm : rx_Hp} (K : ∀ h', Fr hgF [20] hm h' → h'.1 0 38 = zI (hgU a p : Nat) → h'.1 0 39 = zI (hgV a p : Nat) → F h') : Ev wM G 3 q_M_layHinge [.ref 0, .int (zI a), .int (zI p)] hm (rV F) := by
  obtain ⟨S1, c1, v1, S, c, v, r1, r2, r3, r4, r5, -, -, -⟩ := hg_use h1 h2 h3
  refine w_M_layHinge _ _ ?_
  have init : ∀ (n k : Nat) (hx : rx_Hp), k + n = 360 → (∀ j, j < k → hx.2.1 20 j = -1) → Fr hgF [20] hm hx → Rn wM G 3 q_M_layHinge 2 [some (.ref 0), some (.int (zI a)), some (.int (zI p)), some (.int (zI k))] [] hx (rV F) := by
    intro n
    induction n with
    | zero =>
      intro k hx hk hj fr
      have hcn : 360 ≤ zI (k : Int) := by rw [show (360 : Int32) = zI 360 from by decide, zI_le (by omega) (by omega)]; omega
      refine w_M_layHinge_2 _ _ _ ⟨fun _ => ?_, fun c => absurd hcn c⟩
      refine w_M_throwOn _ _ _ ?_
      refine th_m (by omega) 100 p true 0 0 0 0 [] hx _ r1 ⟨fun q => by simp, rfl, rfl⟩ (by omega) (by omega) trivial (fun k' hk' => hj k' (by omega)) (fun hy my fy ry dy qy => ?_)
      refine w_M_throwOn _ _ _ ?_
      refine th_m (by omega) 100 p false 0 S1 c1 v1 my hy _ r2 ry (by omega) (by omega) dy qy (fun hz mz fz rz dz qz => ?_)
      have hne : ∀ x ∈ mz, ¬ x.1 = p := by
        intro x hx e
        have := rz.1 p
        simp only at this
        rw [r5] at this
        have hn : mz.find? (fun x => x.1 == p) = none := by
          cases z : mz.find? (fun x => x.1 == p) with
          | none => rfl
          | some y => rw [z] at this; cases this
        have := List.find?_eq_none.mp hn x hx
        simp [e] at this
      refine lh_48 (by omega) dz hne 360 0 _ (by omega) (fun k' hk' => qz k' hk') ?_ ?_ (fun h' f' g1 g2 => ?_)
      · rw [pf_ne _ _ (by decide), pf_same]
        have : ∀ l, cnM 0 l = 0 := by
          intro l
          induction l with
          | nil => rfl
          | cons x r ih => unfold cnM; rw [ih, if_neg (by omega)]
        rw [this]; decide
      · rw [pf_same]
        have : ∀ l, smM 0 l = 0 := by
          intro l
          induction l with
          | nil => rfl
          | cons x r ih => unfold smM; rw [ih, if_neg (by omega)]
        rw [this]; decide
      · rw [← rz.2.1] at g1
        rw [← rz.2.2] at g2
        simp only at g1 g2
        rw [r3] at g1
        rw [r4] at g2
        refine K h' ?_ g1 g2
        exact fr.tr ((fy.mono (by decide) (by decide)).tr ((fz.mono (by decide) (by decide)).tr (((Fr.rf.pf (by decide)).pf (by decide) : Fr hgF [20] hz _).tr (f'.mono (by decide) (by decide)))))
    | succ n ih =>
      intro k hx hk hj fr
      have hcn : ¬ 360 ≤ zI (k : Int) := by rw [show (360 : Int32) = zI 360 from by decide, zI_le (by omega) (by omega)]; omega
      refine w_M_layHinge_2 _ _ _ ⟨fun c => absurd c hcn, fun _ => ⟨vp_N (by omega) (by omega), ?_⟩⟩
      rw [show zI (k : Int) + 1 = zI ((k + 1 : Nat) : Int) from zI_add k 1, zI_cN (by omega)]
      refine ih (k + 1) _ (by omega) (fun j hj2 => ?_) (fr.pa (by decide))
      by_cases q : j = k
      · subst q; rw [pa_same]
      · rw [pa_ne _ _ (by simp [q])]; exact hj j (by omega)
  exact init 360 0 hm (by omega) (fun j hj => absurd hj (Nat.not_lt_zero j)) Fr.rf
end HNG

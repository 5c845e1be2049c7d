/-! bytes of numbers (the first rows began as kit/laws/BITS.to-paste) -/
def zb_t (x : Int32) (i : Nat) : Bool := x.toBitVec.getLsbD i
theorem zb_ext {x y : Int32} (h : ∀ i, i < 32 → zb_t x i = zb_t y i) : x = y := Int32.toBitVec_inj.mp (BitVec.eq_of_getLsbD_eq (fun i hi => h i hi))
theorem zb_and (x y : Int32) (i : Nat) : zb_t (x &&& y) i = (zb_t x i && zb_t y i) := by unfold zb_t; rw [Int32.toBitVec_and, BitVec.getLsbD_and]
theorem zb_big {x : Int32} {i : Nat} (h : 32 ≤ i) : zb_t x i = false := BitVec.getLsbD_of_ge _ _ h
theorem zb_255 (i : Nat) : zb_t 255 i = decide (i < 8) := by
  rcases Nat.lt_or_ge i 32 with h | h
  · exact (by decide +kernel : ∀ i, i < 32 → zb_t 255 i = decide (i < 8)) i h
  · rw [zb_big h, decide_eq_false (by omega)]
theorem zb_sl : ∀ n, n < 32 → ((nI n &&& 31).toBitVec.smod 32).toNat = n := by decide +kernel
theorem zb_su : ∀ n, n < 32 → (((nI n).toUInt32 &&& Int32.toUInt32 31).toBitVec % 32).toNat = n := by decide +kernel
theorem zb_ushr (n : Nat) (hn : n < 32) (x : Int32) (i : Nat) : zb_t ((x.toUInt32 >>> ((nI n).toUInt32 &&& Int32.toUInt32 31)).toInt32) i = zb_t x (n + i) := by
  show (x.toUInt32 >>> ((nI n).toUInt32 &&& Int32.toUInt32 31)).toBitVec.getLsbD i = x.toUInt32.toBitVec.getLsbD (n + i)
  rw [UInt32.toBitVec_shiftRight]
  show (x.toUInt32.toBitVec >>> (((nI n).toUInt32 &&& Int32.toUInt32 31).toBitVec % 32).toNat).getLsbD i = _
  rw [zb_su n hn, BitVec.getLsbD_ushiftRight]
theorem zb_sshr (n : Nat) (hn : n < 32) (x : Int32) {i : Nat} (hi : i < 32) : zb_t (x >>> (nI n &&& 31)) i = if n + i < 32 then zb_t x (n + i) else zb_t x 31 := by
  unfold zb_t
  rw [Int32.toBitVec_shiftRight]
  show (x.toBitVec.sshiftRight ((nI n &&& 31).toBitVec.smod 32).toNat).getLsbD i = _
  rw [zb_sl n hn, BitVec.getLsbD_sshiftRight, BitVec.msb_eq_getLsbD_last]
  simp [hi]
def byN (x : Int32) (s : Nat) : Nat := ((x >>> (zI s &&& 31)) &&& 255).toInt.toNat
theorem by_m (x : Int32) (s : Nat) : (x >>> (zI s &&& 31)) &&& 255 = zI (byN x s : Nat) ∧ byN x s ≤ 255 := by
  obtain ⟨j, h1, h2⟩ := pk_andE (x >>> (zI s &&& 31)) (m := 255) 8 (by decide)
  rw [zI_nI] at h2
  have h1 : j < 256 := h1
  unfold byN
  rw [h2, zI_back (by omega)]
  exact ⟨rfl, by omega⟩
theorem by_c (x : Int32) {s : Nat} (hs : s ≤ 24) : ((x.toUInt32 >>> ((zI s).toUInt32 &&& Int32.toUInt32 31)).toInt32) &&& 255 = zI (byN x s : Nat) := by
  rw [← (by_m x s).1]
  apply zb_ext
  intro i hi
  rw [zb_and, zb_and, zb_255, ← zI_nI, zb_ushr s (by omega), zb_sshr s (by omega) x hi]
  by_cases q : i < 8
  · rw [if_pos (by omega)]
  · rw [decide_eq_false q, Bool.and_false, Bool.and_false]
def pB (p : Nat × (Nat → Nat)) (v : Nat) : Nat × (Nat → Nat) := if v = 0 then p else (p.1 + 1, setN p.2 p.1 v)
def pL (p : Nat × (Nat → Nat)) (l : List Nat) : Nat × (Nat → Nat) := l.foldl pB p
def nz : List Nat → Nat
  | [] => 0
  | v :: l => (if v = 0 then 0 else 1) + nz l
theorem nz_app (a b : List Nat) : nz (a ++ b) = nz a + nz b := by
  induction a with
  | nil => simp [nz]
  | cons v a ih => rw [List.cons_append, nz, nz, ih]; omega
theorem pL_n (l : List Nat) : ∀ p, (pL p l).1 = p.1 + nz l := by
  induction l with
  | nil => intro p; rfl
  | cons v l ih =>
    intro p
    show (pL (pB p v) l).1 = _
    rw [ih, nz]
    unfold pB
    by_cases q : v = 0
    · rw [if_pos q, if_pos q]; omega
    · rw [if_neg q, if_neg q]; show p.1 + 1 + nz l = _; omega
theorem pL_ok (l : List Nat) : ∀ p : Nat × (Nat → Nat), TOk p.1 p.2 → p.1 + nz l ≤ 160 → (∀ v ∈ l, v ≤ 255) → TOk (pL p l).1 (pL p l).2 := by
  induction l with
  | nil => intro p h _ _; exact h
  | cons v l ih =>
    intro p h hn hv
    show TOk (pL (pB p v) l).1 (pL (pB p v) l).2
    rw [nz] at hn
    have hv0 := hv v List.mem_cons_self
    unfold pB
    by_cases q : v = 0
    · rw [if_pos q]
      rw [if_pos q] at hn
      exact ih p h (by omega) (fun u hu => hv u (List.mem_cons_of_mem _ hu))
    · rw [if_neg q]
      rw [if_neg q] at hn
      refine ih _ ⟨by show p.1 + 1 ≤ 160; omega, fun i hi => ?_⟩ (by show p.1 + 1 + nz l ≤ 160; omega) (fun u hu => hv u (List.mem_cons_of_mem _ hu))
      show 1 ≤ setN p.2 p.1 v i ∧ setN p.2 p.1 v i ≤ 255
      have hi : i < p.1 + 1 := hi
      unfold setN
      by_cases z : i = p.1
      · rw [if_pos z]; omega
      · rw [if_neg z]; exact h.2 i (by omega)
def wB (x : Int32) : Nat → List Nat
  | 0 => []
  | m + 1 => byN x (8 * m) :: wB x m
theorem wB_le (x : Int32) : ∀ m, ∀ v ∈ wB x m, v ≤ 255
  | 0, v, h => by cases h
  | m + 1, v, h => by
    rcases List.mem_cons.mp h with rfl | h
    · exact (by_m x _).2
    · exact wB_le x m v h
def w20 (a b c d e : Int32) : List Nat := wB a 4 ++ (wB b 4 ++ (wB c 4 ++ (wB d 4 ++ wB e 4)))
theorem nz_le : ∀ l : List Nat, nz l ≤ l.length
  | [] => Nat.le_refl _
  | v :: l => by have := nz_le l; rw [nz, List.length_cons]; split <;> omega
section FED
variable {n : Nat} {tb : Nat → Nat}
theorem sg_c {G : rx_Gh} {F : Int32 → rx_Hp → Prop} {hc : rx_Hp} (x : Int32) (K : F (zI (nz (wB x 4) : Nat)) hc) : Ev wC G 1 q_Ta_signsIn [.int x] hc (rI F) := by
  refine w_Ta_signsIn x ?_
  have lp : ∀ (m c : Nat), m ≤ 4 → F (zI (c + nz (wB x m) : Nat)) hc → Rn wC G 1 q_Ta_signsIn 5 [some (.int x), some (.int (zI c)), some (.int (zI (8 * (m : Int) - 8)))] [] hc (rI F) := by
    intro m
    induction m with
    | zero =>
      intro c hm K
      exact w_Ta_signsIn_5 _ _ _ ⟨fun _ => K, fun c => absurd (by decide) c⟩
    | succ m ih =>
      intro c hm K
      have e1 : zI (8 * ((m + 1 : Nat) : Int) - 8) = zI ((8 * m : Nat) : Int) := by congr 1; omega
      have hcn : ¬ zI ((8 * m : Nat) : Int) < 0 := by
        have := zI_lt (a := ((8 * m : Nat) : Int)) (b := 0) (by omega) (by omega)
        rw [show zI 0 = (0 : Int32) from by decide] at this
        rw [this]; omega
      rw [e1]
      refine w_Ta_signsIn_5 _ _ _ ⟨fun c => absurd c hcn, fun _ => ?_⟩
      have b := by_m x (8 * m)
      rw [by_c x (by omega), show zI ((8 * m : Nat) : Int) + (-8) = zI (8 * (m : Int) - 8) from by rw [show (-8 : Int32) = zI (-8) from by decide, zI_add]; congr 1]
      have z := z0_iff (b := byN x (8 * m)) (by omega)
      rw [wB, nz] at K
      by_cases q : byN x (8 * m) = 0
      · rw [if_pos (z.mpr q)]
        rw [if_pos q, Nat.zero_add] at K
        exact ih c (by omega) K
      · rw [if_neg (mt z.mp q), show zI (c : Int) + 1 = zI ((c + 1 : Nat) : Int) from zI_add c 1]
        rw [if_neg q, ← Nat.add_assoc] at K
        exact ih (c + 1) (by omega) K
  have := lp 4 0 (by omega) (by rw [Nat.zero_add]; exact K)
  exact this
theorem ad_c {G : rx_Gh} {F : rx_Hp → Prop} (x : Int32) {p : Nat × (Nat → Nat)} {hc : rx_Hp} (ok : p.1 + nz (wB x 4) ≤ 160) (T : TC p.1 p.2 hc) (K : ∀ h', TC (pL p (wB x 4)).1 (pL p (wB x 4)).2 h' → Fr [(1, 1)] [2] hc h' → F h') : Ev wC G 1 q_Ta_add [.ref 1, .int x] hc (rV F) := by
  refine w_Ta_add x ?_
  have lp : ∀ (m : Nat) (p : Nat × (Nat → Nat)) (hx : rx_Hp), m ≤ 4 → p.1 + nz (wB x m) ≤ 160 → TC p.1 p.2 hx → (∀ h', TC (pL p (wB x m)).1 (pL p (wB x m)).2 h' → Fr [(1, 1)] [2] hx h' → F h') → Rn wC G 1 q_Ta_add 3 [some (.ref 1), some (.int x), some (.int (zI (8 * (m : Int) - 8))), none] [] hx (rV F) := by
    intro m
    induction m with
    | zero =>
      intro p hx hm _ T K
      exact w_Ta_add_3 _ _ ⟨fun _ => K hx T Fr.rf, fun c => absurd (by decide) c⟩
    | succ m ih =>
      intro p hx hm hp T K
      have e1 : zI (8 * ((m + 1 : Nat) : Int) - 8) = zI ((8 * m : Nat) : Int) := by congr 1; omega
      have hcn : ¬ zI ((8 * m : Nat) : Int) < 0 := by
        have := zI_lt (a := ((8 * m : Nat) : Int)) (b := 0) (by omega) (by omega)
        rw [show zI 0 = (0 : Int32) from by decide] at this
        rw [this]; omega
      rw [e1]
      refine w_Ta_add_3 _ _ ⟨fun c => absurd c hcn, fun _ => ?_⟩
      have b := by_m x (8 * m)
      rw [by_c x (by omega), show zI ((8 * m : Nat) : Int) + (-8) = zI (8 * (m : Int) - 8) from by rw [show (-8 : Int32) = zI (-8) from by decide, zI_add]; congr 1]
      have z := z0_iff (b := byN x (8 * m)) (by omega)
      rw [wB, nz] at hp
      have eK : pL p (wB x (m + 1)) = pL (pB p (byN x (8 * m))) (wB x m) := rfl
      rw [eK] at K
      unfold pB at K
      refine ⟨fun c => ?_, fun c => ⟨fun d => ?_, fun d => ?_⟩⟩
      · have c := z.mp c
        rw [if_pos c] at K
        rw [if_pos c] at hp
        exact ih p hx (by omega) (by omega) T K
      · have c := mt z.mpr c
        rw [if_neg c] at hp
        rw [T.1, show (160 : Int32) = zI 160 from by decide, zI_le (by omega) (by omega)] at d
        omega
      · have c := mt z.mpr c
        rw [if_neg c] at K
        rw [if_neg c] at hp
        rw [T.1, zI_cN (by omega), show zI (p.1 : Int) + 1 = zI ((p.1 + 1 : Nat) : Int) from zI_add p.1 1]
        refine ⟨vp_N (by omega) (by omega), ih (p.1 + 1, setN p.2 p.1 (byN x (8 * m))) _ (by omega) (by show p.1 + 1 + nz (wB x m) ≤ 160; omega) ⟨by rw [pf_same], fun i hi => ?_⟩ (fun h' T' f' => K h' T' (Fr.tr ((Fr.rf.pa (by decide)).pf (by decide)) f'))⟩
        rw [pf_a]
        show _ = zI ((setN p.2 p.1 (byN x (8 * m)) i : Nat) : Int)
        have hi : i < p.1 + 1 := hi
        unfold setN
        by_cases q : i = p.1
        · subst q; rw [pa_same, if_pos rfl]
        · rw [pa_ne _ _ (by simp [q]), if_neg q]; exact T.2 i (by omega)
  exact lp 4 p hc (by omega) ok T K
theorem a_feed_c {G : rx_Gh} {F : Int32 → rx_Hp → Prop} {hc : rx_Hp} (ok : TOk n tb) (T : TC n tb hc) (a b c d e : Int32) (K0 : ¬ n + nz (w20 a b c d e) ≤ 160 → F (-1) hc) (K1 : n + nz (w20 a b c d e) ≤ 160 → ∀ h', TC (pL (n, tb) (w20 a b c d e)).1 (pL (n, tb) (w20 a b c d e)).2 h' → Fr [(1, 1)] [2] hc h' → F (zI ((pL (n, tb) (w20 a b c d e)).1 : Nat)) h') : Ev wC G 2 q_GR_feed [.ref 0, .int a, .int b, .int c, .int d, .int e] hc (rI F) := by
  have o1 := ok.1
  have la := nz_le (wB a 4)
  have lb := nz_le (wB b 4)
  have lc := nz_le (wB c 4)
  have ld := nz_le (wB d 4)
  have le := nz_le (wB e 4)
  have la2 : (wB a 4).length = 4 := rfl
  have lb2 : (wB b 4).length = 4 := rfl
  have lc2 : (wB c 4).length = 4 := rfl
  have ld2 : (wB d 4).length = 4 := rfl
  have le2 : (wB e 4).length = 4 := rfl
  have es : nz (w20 a b c d e) = nz (wB a 4) + nz (wB b 4) + nz (wB c 4) + nz (wB d 4) + nz (wB e 4) := by
    unfold w20; rw [nz_app, nz_app, nz_app, nz_app]; omega
  refine w_GR_feed a b c d e (sg_c a (sg_c b (sg_c c (sg_c d (sg_c e ?_)))))
  rw [T.1, zI_add, zI_add, zI_add, zI_add, zI_add, show (n : Int) + ((nz (wB a 4) : Int) + (nz (wB b 4) : Int) + (nz (wB c 4) : Int) + (nz (wB d 4) : Int) + (nz (wB e 4) : Int)) = ((n + nz (w20 a b c d e) : Nat) : Int) by omega, show (160 : Int32) = zI 160 from by decide, zI_le (by omega) (by omega)]
  refine ⟨fun q => ?_, fun q => K0 (by omega)⟩
  have pa := pL_n (wB a 4) (n, tb)
  have pb := pL_n (wB b 4) (pL (n, tb) (wB a 4))
  have pc := pL_n (wB c 4) (pL (pL (n, tb) (wB a 4)) (wB b 4))
  have pd := pL_n (wB d 4) (pL (pL (pL (n, tb) (wB a 4)) (wB b 4)) (wB c 4))
  have pe := pL_n (wB e 4) (pL (pL (pL (pL (n, tb) (wB a 4)) (wB b 4)) (wB c 4)) (wB d 4))
  have pa' : (pL (n, tb) (wB a 4)).1 = n + nz (wB a 4) := pa
  refine ad_c a (p := (n, tb)) (by show n + nz (wB a 4) ≤ 160; omega) T (fun h1 T1 f1 => ad_c b (by omega) T1 (fun h2 T2 f2 => ad_c c (by omega) T2 (fun h3 T3 f3 => ad_c d (by omega) T3 (fun h4 T4 f4 => ad_c e (by omega) T4 (fun h5 T5 f5 => ?_)))))
  have eP : pL (n, tb) (w20 a b c d e) = pL (pL (pL (pL (pL (n, tb) (wB a 4)) (wB b 4)) (wB c 4)) (wB d 4)) (wB e 4) := by
    unfold w20 pL; rw [List.foldl_append, List.foldl_append, List.foldl_append, List.foldl_append]
  rw [eP] at K1
  rw [T5.1]
  exact K1 (by omega) h5 T5 (f1.tr (f2.tr (f3.tr (f4.tr f5))))
theorem by_k (a b c d e : Int32) : ∀ k : Nat, k < 20 → f_M_byteOf a b c d e (zI k) = zI (((w20 a b c d e).getD k 0 : Nat) : Int)
  | 0, _ => (by_m a 24).1
  | 1, _ => (by_m a 16).1
  | 2, _ => (by_m a 8).1
  | 3, _ => (by_m a 0).1
  | 4, _ => (by_m b 24).1
  | 5, _ => (by_m b 16).1
  | 6, _ => (by_m b 8).1
  | 7, _ => (by_m b 0).1
  | 8, _ => (by_m c 24).1
  | 9, _ => (by_m c 16).1
  | 10, _ => (by_m c 8).1
  | 11, _ => (by_m c 0).1
  | 12, _ => (by_m d 24).1
  | 13, _ => (by_m d 16).1
  | 14, _ => (by_m d 8).1
  | 15, _ => (by_m d 0).1
  | 16, _ => (by_m e 24).1
  | 17, _ => (by_m e 16).1
  | 18, _ => (by_m e 8).1
  | 19, _ => (by_m e 0).1
  | k + 20, h => absurd h (by omega)
theorem w20_len (a b c d e : Int32) : (w20 a b c d e).length = 20 := rfl
theorem w20_le (a b c d e : Int32) : ∀ v ∈ w20 a b c d e, v ≤ 255 := by
  intro v hv
  unfold w20 at hv
  rcases List.mem_append.mp hv with h | hv
  · exact wB_le a 4 v h
  rcases List.mem_append.mp hv with h | hv
  · exact wB_le b 4 v h
  rcases List.mem_append.mp hv with h | hv
  · exact wB_le c 4 v h
  rcases List.mem_append.mp hv with h | hv
  · exact wB_le d 4 v h
  · exact wB_le e 4 v hv
theorem a_feed_m {G : rx_Gh} {F : Int32 → rx_Hp → Prop} {hm : rx_Hp} (ok : TOk n tb) (T : TM n tb hm) (a b c d e : Int32) (K0 : ¬ n + nz (w20 a b c d e) ≤ 160 → F (-1) hm) (K1 : n + nz (w20 a b c d e) ≤ 160 → ∀ h', TM (pL (n, tb) (w20 a b c d e)).1 (pL (n, tb) (w20 a b c d e)).2 h' → Fr [(0, 2)] [1] hm h' → F (zI ((pL (n, tb) (w20 a b c d e)).1 : Nat)) h') : Ev wM G 2 q_M_feed [.ref 0, .int a, .int b, .int c, .int d, .int e] hm (rI F) := by
  have o1 := ok.1
  have nl := nz_le (w20 a b c d e)
  rw [w20_len] at nl
  have gd : ∀ k, k < 20 → (w20 a b c d e).drop k = (w20 a b c d e).getD k 0 :: (w20 a b c d e).drop (k + 1) := by
    intro k hk
    have hk2 : k < (w20 a b c d e).length := by rw [w20_len]; exact hk
    rw [List.drop_eq_getElem_cons hk2, List.getD_eq_getElem?_getD, List.getElem?_eq_getElem hk2]; rfl
  have gle : ∀ k, k < 20 → (w20 a b c d e).getD k 0 ≤ 255 := by
    intro k hk
    have hk2 : k < (w20 a b c d e).length := by rw [w20_len]; exact hk
    rw [List.getD_eq_getElem?_getD, List.getElem?_eq_getElem hk2]
    exact w20_le a b c d e _ (List.getElem_mem hk2)
  refine w_M_feed a b c d e ?_
  have l2 : ∀ (m k : Nat) (p : Nat × (Nat → Nat)) (hx : rx_Hp), k + m = 20 → p.1 + nz ((w20 a b c d e).drop k) ≤ 160 → TM p.1 p.2 hx → (∀ h', TM (pL p ((w20 a b c d e).drop k)).1 (pL p ((w20 a b c d e).drop k)).2 h' → Fr [(0, 2)] [1] hx h' → F (zI ((pL p ((w20 a b c d e).drop k)).1 : Nat)) h') → Rn wM G 2 q_M_feed 62 [some (.ref 0), some (.int a), some (.int b), some (.int c), some (.int d), some (.int e), none, some (.int (zI k)), none] [] hx (rI F) := by
    intro m
    induction m with
    | zero =>
      intro k p hx hk _ T K
      have hcn : 20 ≤ zI (k : Int) := by rw [show (20 : Int32) = zI 20 from by decide, zI_le (by omega) (by omega)]; omega
      have e0 : (w20 a b c d e).drop k = [] := List.drop_eq_nil_of_le (by rw [w20_len]; omega)
      rw [e0] at K
      refine w_M_feed_62 _ _ _ _ _ _ ⟨fun _ => ?_, fun c => absurd hcn c⟩
      rw [T.1]
      exact K hx T Fr.rf
    | succ m ih =>
      intro k p hx hk hp T K
      have hcn : ¬ 20 ≤ zI (k : Int) := by rw [show (20 : Int32) = zI 20 from by decide, zI_le (by omega) (by omega)]; omega
      have gl := gle k (by omega)
      refine w_M_feed_62 _ _ _ _ _ _ ⟨fun c => absurd c hcn, fun _ => ?_⟩
      rw [by_k a b c d e k (by omega), show zI (k : Int) + 1 = zI ((k + 1 : Nat) : Int) from zI_add k 1]
      have z := z0_iff (b := (w20 a b c d e).getD k 0) (by omega)
      rw [gd k (by omega)] at hp K
      rw [nz] at hp
      have eK : pL p ((w20 a b c d e).getD k 0 :: (w20 a b c d e).drop (k + 1)) = pL (pB p ((w20 a b c d e).getD k 0)) ((w20 a b c d e).drop (k + 1)) := rfl
      rw [eK] at K
      unfold pB at K
      refine ⟨fun q => ?_, fun q => ?_⟩
      · have q := z.mp q
        rw [if_pos q] at K
        rw [if_pos q] at hp
        exact ih (k + 1) p hx (by omega) (by omega) T K
      · have q := mt z.mpr q
        rw [if_neg q] at K
        rw [if_neg q] at hp
        rw [T.1, zI_cN (by omega), show zI (p.1 : Int) + 1 = zI ((p.1 + 1 : Nat) : Int) from zI_add p.1 1]
        refine ⟨vp_N (by omega) (by omega), ih (k + 1) (p.1 + 1, setN p.2 p.1 ((w20 a b c d e).getD k 0)) _ (by omega) (by show p.1 + 1 + _ ≤ 160; omega) ⟨by rw [pf_same], fun i hi => ?_⟩ (fun h' T' f' => K h' T' (Fr.tr ((Fr.rf.pa (by decide)).pf (by decide)) f'))⟩
        rw [pf_a]
        show _ = zI ((setN p.2 p.1 ((w20 a b c d e).getD k 0) i : Nat) : Int)
        have hi : i < p.1 + 1 := hi
        unfold setN
        by_cases y : i = p.1
        · subst y; rw [pa_same, if_pos rfl]
        · rw [pa_ne _ _ (by simp [y]), if_neg y]; exact T.2 i (by omega)
  have l1 : ∀ (m k s : Nat), k + m = 20 → s + nz ((w20 a b c d e).drop k) = nz (w20 a b c d e) → Rn wM G 2 q_M_feed 6 [some (.ref 0), some (.int a), some (.int b), some (.int c), some (.int d), some (.int e), some (.int (zI s)), some (.int (zI k)), none] [] hm (rI F) := by
    intro m
    induction m with
    | zero =>
      intro k s hk hs
      have hcn : 20 ≤ zI (k : Int) := by rw [show (20 : Int32) = zI 20 from by decide, zI_le (by omega) (by omega)]; omega
      have e0 : (w20 a b c d e).drop k = [] := List.drop_eq_nil_of_le (by rw [w20_len]; omega)
      rw [e0] at hs
      have hs : s = nz (w20 a b c d e) := hs
      refine w_M_feed_6 _ _ _ _ _ _ _ ⟨fun _ => ?_, fun c => absurd hcn c⟩
      rw [T.1, zI_add, show (160 : Int32) = zI 160 from by decide, zI_le (by omega) (by omega)]
      refine ⟨fun q => ?_, fun q => K0 (by omega)⟩
      exact l2 20 0 (n, tb) hm (by omega) (by rw [List.drop_zero]; show n + nz (w20 a b c d e) ≤ 160; omega) T (by rw [List.drop_zero]; exact K1 (by omega))
    | succ m ih =>
      intro k s hk hs
      have hcn : ¬ 20 ≤ zI (k : Int) := by rw [show (20 : Int32) = zI 20 from by decide, zI_le (by omega) (by omega)]; omega
      have gl := gle k (by omega)
      refine w_M_feed_6 _ _ _ _ _ _ _ ⟨fun c => absurd c hcn, fun _ => ?_⟩
      rw [by_k a b c d e k (by omega), show zI (k : Int) + 1 = zI ((k + 1 : Nat) : Int) from zI_add k 1]
      have z := z0_iff (b := (w20 a b c d e).getD k 0) (by omega)
      rw [gd k (by omega), nz] at hs
      by_cases q : (w20 a b c d e).getD k 0 = 0
      · rw [if_pos (z.mpr q), show zI (s : Int) + 0 = zI (s : Int) from zI_add s 0]
        rw [if_pos q] at hs
        exact ih (k + 1) s (by omega) (by omega)
      · rw [if_neg (mt z.mp q), show zI (s : Int) + 1 = zI ((s + 1 : Nat) : Int) from zI_add s 1]
        rw [if_neg q] at hs
        exact ih (k + 1) (s + 1) (by omega) (by omega)
  exact l1 20 0 0 (by omega) (by rw [List.drop_zero, Nat.zero_add])
end FED

/-! pairs: the changing methods -/
section PAC
variable {S : Gs}
/-- the parts of the class's state that stay, after a change of some -/
theorem t_undo (ok : ROk S) : Pd 3 2 q_GR_undo q_M_undo [] S := by
  by_cases c : S.na = 0
  · exact ⟨-1, S, ok, fun _ _ r => Exists.elim r.a (fun _ ra => a_undo_c ok.h r.h ok.a.1 ra (fun _ => ⟨rfl, r⟩) (fun q => absurd c (by omega))), fun _ _ r => a_undo_m ok.h r.h ok.a.1 r.a (fun _ => ⟨rfl, r⟩) (fun q => absurd c (by omega))⟩
  · have hn := ok.a.1
    have z := ok.a.2 (S.na - 1) (by omega)
    have ok' : ROk (S.1, (S.nb, S.w, S.h, S.R (S.na - 1) 12, S.t, rX (S.R (S.na - 1)), rY (S.R (S.na - 1)), S.A), (S.na - 1, S.R), S.2.2.2) :=
      ⟨ok.t, rOk ok.h z.1 z.2, ⟨Nat.le_trans (Nat.sub_le _ _) hn, fun k hk => ok.a.2 k (Nat.lt_of_lt_of_le hk (Nat.sub_le _ _))⟩, ok.k, ok.p, ok.l, ok.g⟩
    refine ⟨zI ((S.na - 1 : Nat) : Int), _, ok', fun _ _ r => Exists.elim r.a (fun _ ra => a_undo_c ok.h r.h hn ra (fun q => absurd q c) (fun _ hp nx' f H a => ⟨rfl, r.t.fr f, H, ⟨nx', a⟩, r.k.fr f, r.p.fr f, r.l.fr f, r.g.fr ok.l.1 f⟩)), fun _ _ r => a_undo_m ok.h r.h hn r.a (fun q => absurd q c) (fun _ hp f H a => ⟨rfl, r.t.fr f, H, a, r.k.fr f, r.p.fr f, r.l.fr f, r.g.fr f⟩)⟩
theorem row_ok {nb w h g t : Nat} {X Y A : Nat → Nat} (ok : HOk nb w h g t X Y A) : rowN g X Y 12 < 16 ∧ ∀ b, b < nb → rowN g X Y (2 * b) ≤ w ∧ rowN g X Y (2 * b + 1) ≤ h := by
  refine ⟨ok.2.2.2.1, fun b hb => ?_⟩
  have h6 := ok.1
  have z := ok.2.2.2.2.2.2 b hb
  unfold rowN
  rw [if_neg (by omega), if_pos (by omega), if_neg (by omega), if_neg (by omega), show 2 * b / 2 = b from by omega, show (2 * b + 1) / 2 = b from by omega]
  exact ⟨z.1, z.2.1⟩
theorem t_keep (ok : ROk S) : Pd 2 2 q_GR_keep q_M_keep [] S := by
  by_cases c : S.nb = 0
  · exact ⟨-1, S, ok, fun _ _ r => Exists.elim r.a (fun _ ra => a_keep_c ok.h r.h ra (fun _ => ⟨rfl, r⟩) (fun q => absurd c (by omega))), fun _ _ r => a_keep_m ok.h r.h r.a (fun _ => ⟨rfl, r⟩) (fun q => absurd c (by omega))⟩
  · have ok' : ROk (S.1, S.2.1, S.2.2.1, (1, rowN S.g S.X S.Y), S.2.2.2.2) := ⟨ok.t, ok.h, ok.a, ⟨Nat.le_refl 1, fun _ => row_ok ok.h⟩, ok.p, ok.l, ok.g⟩
    refine ⟨zI S.na, _, ok', fun _ _ r => Exists.elim r.a (fun nx ra => a_keep_c ok.h r.h ra (fun q => absurd q c) (fun _ hp f k => ⟨rfl, r.t.fr f, r.h.fr f, ⟨nx, ra.fr f⟩, k, r.p.fr f, r.l.fr f, r.g.fr ok.l.1 f⟩)), fun _ _ r => a_keep_m ok.h r.h r.a (fun q => absurd q c) (fun _ hp f k => ⟨rfl, r.t.fr f, r.h.fr f, r.a.fr f, k, r.p.fr f, r.l.fr f, r.g.fr f⟩)⟩
theorem t_back (ok : ROk S) : Pd 2 2 q_GR_back q_M_back [] S := by
  have k1 := ok.k.1
  by_cases c : S.kp = 0
  · exact ⟨-1, S, ok, fun _ _ r => Exists.elim r.a (fun _ ra => a_back_c ok.h r.h ra r.k k1 (fun _ => ⟨rfl, r⟩) (fun q => absurd c (by omega))), fun _ _ r => a_back_m (R := S.R) ok.h r.h r.k k1 (fun _ => ⟨rfl, r⟩) (fun q => absurd c (by omega))⟩
  · have z := ok.k.2 (by omega)
    have ok' : ROk (S.1, (S.nb, S.w, S.h, S.kr 12, S.t, rX S.kr, rY S.kr, S.A), (0, S.R), S.2.2.2) :=
      ⟨ok.t, rOk ok.h z.1 z.2, ⟨Nat.zero_le _, fun k hk => absurd hk (Nat.not_lt_zero k)⟩, ok.k, ok.p, ok.l, ok.g⟩
    refine ⟨0, _, ok', fun _ _ r => Exists.elim r.a (fun nx ra => a_back_c ok.h r.h ra r.k k1 (fun q => absurd q c) (fun _ hp f H a => ⟨rfl, r.t.fr f, H, ⟨nx, a⟩, r.k.fr f, r.p.fr f, r.l.fr f, r.g.fr ok.l.1 f⟩)), fun _ _ r => a_back_m ok.h r.h r.k k1 (fun q => absurd q c) (fun _ hp f H a => ⟨rfl, r.t.fr f, H, a, r.k.fr f, r.p.fr f, r.l.fr f, r.g.fr f⟩)⟩
theorem wF_ok {u : Int64 → Int64} {v : Int64 → Int32} {nb w h g t : Nat} {A : Nat → Nat} : ∀ (m b : Nat) (X Y : Nat → Nat) (x : Int64), HOk nb w h g t X Y A → HOk nb w h g t (wF u v w h m b X Y x).1 (wF u v w h m b X Y x).2.1 A := by
  intro m
  induction m with
  | zero => intro b X Y x ok; rw [wF_0]; exact ok
  | succ m ih => intro b X Y x ok; rw [wF_s]; exact ih _ _ _ _ (wn_ok ok b _)
theorem sF_ok {u : Int64 → Int64} {v : Int64 → Int32} {nb w h g t : Nat} {A : Nat → Nat} : ∀ (m na : Nat) (R : Nat → Nat → Nat) (X Y : Nat → Nat) (x : Int64), HOk nb w h g t X Y A → AOk nb w h na R → HOk nb w h g t (sF u v nb w h g m na R X Y x).2.2.1 (sF u v nb w h g m na R X Y x).2.2.2 A ∧ AOk nb w h (sF u v nb w h g m na R X Y x).1 (sF u v nb w h g m na R X Y x).2.1 := by
  intro m
  induction m with
  | zero => intro na R X Y x ok oa; rw [sF_0]; exact ⟨ok, oa⟩
  | succ m ih => intro na R X Y x ok oa; rw [sF_s]; exact ih _ _ _ _ _ (wF_ok nb 0 X Y x ok) (pushOk ok oa)
theorem t_steps (ok : ROk S) (n : Int32) (x : Int64) : Pd 3 3 q_GR_steps q_M_steps [.int n, .long x] S := by
  by_cases c : stpI S.nb n = true
  · generalize hq : sF nxt drw S.nb S.w S.h S.g n.toInt.toNat S.na S.R S.X S.Y x = q
    have z := sF_ok (u := nxt) (v := drw) (t := S.t) (A := S.A) n.toInt.toNat S.na S.R S.X S.Y x ok.h ok.a
    rw [hq] at z
    have ok' : ROk (S.1, (S.nb, S.w, S.h, S.g, S.t, q.2.2.1, q.2.2.2, S.A), (q.1, q.2.1), S.2.2.2) := ⟨ok.t, z.1, z.2, ok.k, ok.p, ok.l, ok.g⟩
    refine ⟨zI q.1, _, ok', fun _ _ r => Exists.elim r.a (fun nx ra => a_steps_c ok.h ok.a r.h ra n x (fun d => absurd (d.symm.trans c) (by decide)) (fun _ q' e hp nx' _ _ H f a => ?_)), fun _ _ r => a_steps_m ok.h ok.a r.h r.a n x (fun d => absurd (d.symm.trans c) (by decide)) (fun _ q' e hp _ _ H f a => ?_)⟩
    · have e := e.trans hq
      subst e
      exact ⟨rfl, r.t.fr f, H, ⟨nx', a⟩, r.k.fr f, r.p.fr f, r.l.fr f, r.g.fr ok.l.1 f⟩
    · have e := e.trans hq
      subst e
      exact ⟨rfl, r.t.fr f, H, a, r.k.fr f, r.p.fr f, r.l.fr f, r.g.fr f⟩
  · exact ⟨-1, S, ok, fun _ _ r => Exists.elim r.a (fun _ ra => a_steps_c ok.h ok.a r.h ra n x (fun _ => ⟨rfl, r⟩) (fun q => absurd q c)), fun _ _ r => a_steps_m ok.h ok.a r.h r.a n x (fun _ => ⟨rfl, r⟩) (fun q => absurd q c)⟩
theorem t_move (ok : ROk S) (b x y : Int32) : Pd 3 3 q_GR_move q_M_move [.int b, .int x, .int y] S := by
  by_cases c : mvI S.nb S.w S.h S.X S.Y b x y = true
  · have hw := ok.h.2.1
    have hh := ok.h.2.2.1
    have oh : HOk S.nb S.w S.h S.g S.t (setN S.X b.toInt.toNat x.toInt.toNat) (setN S.Y b.toInt.toNat y.toInt.toNat) S.A := by
      have c2 := c
      unfold mvI at c2
      rw [Bool.and_eq_true, Bool.and_eq_true] at c2
      obtain ⟨u, v, rfl, rfl, k2, k3⟩ := insI_of c2.2.1
      rw [zI_back (by omega), zI_back (by omega)]
      exact ok.h.mv k2 k3
    have ok' : ROk (S.1, (S.nb, S.w, S.h, S.g, S.t, setN S.X b.toInt.toNat x.toInt.toNat, setN S.Y b.toInt.toNat y.toInt.toNat, S.A), (pushN S.na, pushR S.na S.R (rowN S.g S.X S.Y)), S.2.2.2) := ⟨ok.t, oh, pushOk ok.h ok.a, ok.k, ok.p, ok.l, ok.g⟩
    exact ⟨zI (pushN S.na), _, ok', fun _ _ r => Exists.elim r.a (fun nx ra => a_move_c ok.h ok.a r.h ra b x y (fun d => absurd (d.symm.trans c) (by decide)) (fun _ hp nx' _ H f a => ⟨rfl, r.t.fr f, H, ⟨nx', a⟩, r.k.fr f, r.p.fr f, r.l.fr f, r.g.fr ok.l.1 f⟩)), fun _ _ r => a_move_m ok.h ok.a r.h r.a b x y (fun d => absurd (d.symm.trans c) (by decide)) (fun _ hp _ H f a => ⟨rfl, r.t.fr f, H, a, r.k.fr f, r.p.fr f, r.l.fr f, r.g.fr f⟩)⟩
  · exact ⟨-1, S, ok, fun _ _ r => Exists.elim r.a (fun _ ra => a_move_c ok.h ok.a r.h ra b x y (fun _ => ⟨rfl, r⟩) (fun q => absurd q c)), fun _ _ r => a_move_m ok.h ok.a r.h r.a b x y (fun _ => ⟨rfl, r⟩) (fun q => absurd q c)⟩
theorem t_glass (ok : ROk S) (s : Int32) : Pd 3 3 q_GR_glass q_M_glass [.int s] S := by
  by_cases c : glsI S.nb S.g s = true
  · have oh : HOk S.nb S.w S.h s.toInt.toNat S.t S.X S.Y S.A := by
      have c2 := c
      unfold glsI at c2
      rw [Bool.and_eq_true, Bool.and_eq_true, Bool.and_eq_true] at c2
      have d1 := of_decide_eq_true c2.2.1.1
      have d2 := of_decide_eq_true c2.2.1.2
      exact ok.h.gl (by omega)
    have ok' : ROk (S.1, (S.nb, S.w, S.h, s.toInt.toNat, S.t, S.X, S.Y, S.A), (pushN S.na, pushR S.na S.R (rowN S.g S.X S.Y)), S.2.2.2) := ⟨ok.t, oh, pushOk ok.h ok.a, ok.k, ok.p, ok.l, ok.g⟩
    exact ⟨zI (pushN S.na), _, ok', fun _ _ r => Exists.elim r.a (fun nx ra => a_glass_c ok.h ok.a r.h ra s (fun d => absurd (d.symm.trans c) (by decide)) (fun _ hp nx' _ H f a => ⟨rfl, r.t.fr f, H, ⟨nx', a⟩, r.k.fr f, r.p.fr f, r.l.fr f, r.g.fr ok.l.1 f⟩)), fun _ _ r => a_glass_m ok.h ok.a r.h r.a s (fun d => absurd (d.symm.trans c) (by decide)) (fun _ hp _ H f a => ⟨rfl, r.t.fr f, H, a, r.k.fr f, r.p.fr f, r.l.fr f, r.g.fr f⟩)⟩
  · exact ⟨-1, S, ok, fun _ _ r => Exists.elim r.a (fun _ ra => a_glass_c ok.h ok.a r.h ra s (fun _ => ⟨rfl, r⟩) (fun q => absurd q c)), fun _ _ r => a_glass_m ok.h ok.a r.h r.a s (fun _ => ⟨rfl, r⟩) (fun q => absurd q c)⟩
theorem t_end (ok : ROk S) (a : Int32) : Pd 1 1 q_GR_end q_M_end [.int a] S := by
  by_cases c : endI S.n a = true
  · have ot : TOk a.toInt.toNat S.tb := by
      have c2 := c
      unfold endI at c2
      rw [Bool.and_eq_true] at c2
      have d1 := of_decide_eq_true c2.1
      have d2 := of_decide_eq_true c2.2
      have t1 := ok.t.1
      exact ⟨by omega, fun i hi => ok.t.2 i (by omega)⟩
    have ok' : ROk ((a.toInt.toNat, S.tb), S.2) := ⟨ot, ok.h, ok.a, ok.k, ok.p, ok.l, ok.g⟩
    exact ⟨1, _, ok', fun _ _ r => Exists.elim r.a (fun nx ra => a_end_c ok.t r.t a (fun d => absurd (d.symm.trans c) (by decide)) (fun _ hp _ T f => ⟨rfl, T, r.h.fr f, ⟨nx, ra.fr f⟩, r.k.fr f, r.p.fr f, r.l.fr f, r.g.fr ok.l.1 f⟩)), fun _ _ r => a_end_m ok.t r.t a (fun d => absurd (d.symm.trans c) (by decide)) (fun _ hp T f => ⟨rfl, T, r.h.fr f, r.a.fr f, r.k.fr f, r.p.fr f, r.l.fr f, r.g.fr f⟩)⟩
  · exact ⟨0, S, ok, fun _ _ r => a_end_c ok.t r.t a (fun _ => ⟨rfl, r⟩) (fun q => absurd q c), fun _ _ r => a_end_m ok.t r.t a (fun _ => ⟨rfl, r⟩) (fun q => absurd q c)⟩
theorem t_light (ok : ROk S) (a : Int32) : Pd 1 2 q_GR_light q_M_light [.int a] S := by
  by_cases c : ligI S.nl a = true
  · have ol : LOk S.nl a.toInt := by
      have c2 := c
      unfold ligI at c2
      rw [Bool.and_eq_true] at c2
      have d1 := of_decide_eq_true c2.1
      have d2 := of_decide_eq_true c2.2
      exact ⟨ok.l.1, d1, by omega⟩
    have ok' : ROk (S.1, S.2.1, S.2.2.1, S.2.2.2.1, S.2.2.2.2.1, (S.nl, a.toInt, S.Lt)) := ⟨ok.t, ok.h, ok.a, ok.k, ok.p, ol, ok.g⟩
    exact ⟨1, _, ok', fun _ _ r => Exists.elim r.a (fun nx ra => a_light_c ok.l r.l a (fun d => absurd (d.symm.trans c) (by decide)) (fun _ hp _ T f => ⟨rfl, r.t.fr f, r.h.fr f, ⟨nx, ra.fr f⟩, r.k.fr f, r.p.fr f, T, r.g.fr ok.l.1 f⟩)), fun _ _ r => a_light_m ok.l r.l a (fun d => absurd (d.symm.trans c) (by decide)) (fun _ hp T f => ⟨rfl, r.t.fr f, r.h.fr f, r.a.fr f, r.k.fr f, r.p.fr f, T, r.g.fr f⟩)⟩
  · exact ⟨0, S, ok, fun _ _ r => a_light_c ok.l r.l a (fun _ => ⟨rfl, r⟩) (fun q => absurd q c), fun _ _ r => a_light_m ok.l r.l a (fun _ => ⟨rfl, r⟩) (fun q => absurd q c)⟩
theorem t_photo (ok : ROk S) (e f : Int32) : Pd 2 3 q_GR_photo q_M_photo [.int e, .int f] S := by
  by_cases c : phoI S.nb S.np e f = true
  · have op : POk S.nb (S.np + 1) (setN S.pe S.np e.toInt.toNat) (setN S.pf S.np f.toInt.toNat) := by
      have c2 := c
      unfold phoI isB at c2
      rw [Bool.and_eq_true, Bool.and_eq_true, Bool.and_eq_true, Bool.and_eq_true] at c2
      have d1 := of_decide_eq_true c2.1.1
      have d2 := of_decide_eq_true c2.1.2
      have d3 := of_decide_eq_true c2.2.1.1
      have d4 := of_decide_eq_true c2.2.1.2
      have d5 := of_decide_eq_true c2.2.2
      refine ⟨by omega, fun k hk => ?_⟩
      unfold setN
      by_cases q : k = S.np
      · rw [if_pos q, if_pos q]; exact ⟨by omega, by omega⟩
      · rw [if_neg q, if_neg q]; exact ok.p.2 k (by omega)
    have ok' : ROk (S.1, S.2.1, S.2.2.1, S.2.2.2.1, (S.np + 1, setN S.pe S.np e.toInt.toNat, setN S.pf S.np f.toInt.toNat), S.2.2.2.2.2) := ⟨ok.t, ok.h, ok.a, ok.k, op, ok.l, ok.g⟩
    exact ⟨zI ((S.np + 1 : Nat) : Int), _, ok', fun _ _ r => Exists.elim r.a (fun nx ra => a_photo_c ok.h ok.p r.h r.p e f (fun d => absurd (d.symm.trans c) (by decide)) (fun _ hp _ T f => ⟨rfl, r.t.fr f, r.h.fr f, ⟨nx, ra.fr f⟩, r.k.fr f, T, r.l.fr f, r.g.fr ok.l.1 f⟩)), fun _ _ r => a_photo_m ok.h ok.p r.h r.p e f (fun d => absurd (d.symm.trans c) (by decide)) (fun _ hp T f => ⟨rfl, r.t.fr f, r.h.fr f, r.a.fr f, r.k.fr f, T, r.l.fr f, r.g.fr f⟩)⟩
  · exact ⟨-1, S, ok, fun _ _ r => a_photo_c ok.h ok.p r.h r.p e f (fun _ => ⟨rfl, r⟩) (fun q => absurd q c), fun _ _ r => a_photo_m ok.h ok.p r.h r.p e f (fun _ => ⟨rfl, r⟩) (fun q => absurd q c)⟩
theorem t_feed (ok : ROk S) (a b c d e : Int32) : Pd 2 2 q_GR_feed q_M_feed [.int a, .int b, .int c, .int d, .int e] S := by
  by_cases q : S.n + nz (w20 a b c d e) ≤ 160
  · have ot := pL_ok (w20 a b c d e) (S.n, S.tb) ok.t q (w20_le a b c d e)
    have ok' : ROk (((pL (S.n, S.tb) (w20 a b c d e)).1, (pL (S.n, S.tb) (w20 a b c d e)).2), S.2) := ⟨ot, ok.h, ok.a, ok.k, ok.p, ok.l, ok.g⟩
    exact ⟨zI ((pL (S.n, S.tb) (w20 a b c d e)).1 : Nat), _, ok', fun _ _ r => Exists.elim r.a (fun nx ra => a_feed_c ok.t r.t a b c d e (fun z => absurd q z) (fun _ hp T f => ⟨rfl, T, r.h.fr f, ⟨nx, ra.fr f⟩, r.k.fr f, r.p.fr f, r.l.fr f, r.g.fr ok.l.1 f⟩)), fun _ _ r => a_feed_m ok.t r.t a b c d e (fun z => absurd q z) (fun _ hp T f => ⟨rfl, T, r.h.fr f, r.a.fr f, r.k.fr f, r.p.fr f, r.l.fr f, r.g.fr f⟩)⟩
  · exact ⟨-1, S, ok, fun _ _ r => a_feed_c ok.t r.t a b c d e (fun _ => ⟨rfl, r⟩) (fun z => absurd z q), fun _ _ r => a_feed_m ok.t r.t a b c d e (fun _ => ⟨rfl, r⟩) (fun z => absurd z q)⟩
end PAC

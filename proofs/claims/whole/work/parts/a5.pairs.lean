/-! pairs: the asking methods -/
section PAQ
variable {S : Gs}
theorem t_far (ok : ROk S) (a i j e : Int32) : Pd 3 4 q_GR_far q_M_far [.int a, .int i, .int j, .int e] S :=
  ⟨A_far S.nb S.w S.h S.X S.Y a i j e, S, ok, fun _ _ r => a_far_c ok.h r.h a i j e ⟨rfl, r⟩, fun _ _ r => a_far_m ok.h r.h a i j e ⟨rfl, r⟩⟩
theorem t_image (ok : ROk S) (a i j k : Int32) : Pd 4 4 q_GR_image q_M_image [.int a, .int i, .int j, .int k] S :=
  ⟨A_image S.nb S.w S.h S.g S.t S.X S.Y S.A a i j k, S, ok, fun _ _ r => a_image_c ok.h r.h a i j k ⟨rfl, r⟩, fun _ _ r => a_image_m ok.h r.h a i j k ⟨rfl, r⟩⟩
theorem t_beads (ok : ROk S) (k c : Int32) : Pd 1 2 q_GR_beads q_M_beads [.int k, .int c] S :=
  ⟨A_beads k c, S, ok, fun _ _ r => a_beads_c  k c ⟨rfl, r⟩, fun _ _ r => a_beads_m  k c ⟨rfl, r⟩⟩
theorem t_hits (ok : ROk S) (a x u v k : Int32) : Pd 4 3 q_GR_hits q_M_hits [.int a, .int x, .int u, .int v, .int k] S :=
  ⟨A_hits S.nb S.w S.h S.X S.Y a x u v k, S, ok, fun _ _ r => a_hits_c ok.h r.h a x u v k (fun _ f => ⟨rfl, r.fr ok f⟩), fun _ _ r => a_hits_m ok.h r.h a x u v k ⟨rfl, r⟩⟩
theorem t_round (ok : ROk S) (a u : Int32) : Pd 3 41 q_GR_round q_M_round [.int a, .int u] S :=
  ⟨A_round S.nb S.w S.h a u, S, ok, fun _ _ r => a_round_c ok.h r.h a u ⟨rfl, r⟩, fun _ _ r => a_round_m ok.h r.h a u ⟨rfl, r⟩⟩
theorem t_hang (ok : ROk S) (e b wl pt : Int32) : Pd 4 42 q_GR_hang q_M_hang [.int e, .int b, .int wl, .int pt] S :=
  ⟨A_hang S.nb S.w S.h S.X S.Y e b wl pt, S, ok, fun _ _ r => a_hang_c ok.h r.h e b wl pt (fun _ f => ⟨rfl, r.fr ok f⟩), fun _ _ r => a_hang_m ok.h r.h e b wl pt (fun _ f => ⟨rfl, r.fr f⟩)⟩
theorem t_pane (ok : ROk S) (e wl pt : Int32) : Pd 5 42 q_GR_pane q_M_pane [.int e, .int wl, .int pt] S :=
  ⟨A_pane S.nb S.w S.h S.X S.Y e wl pt, S, ok, fun _ _ r => a_pane_c ok.h r.h e wl pt (fun _ f => ⟨rfl, r.fr ok f⟩), fun _ _ r => a_pane_m ok.h r.h e wl pt (fun _ f => ⟨rfl, r.fr f⟩)⟩
theorem t_fits (ok : ROk S) (n : Int32) : Pd 6 5 q_GR_fits q_M_fits [.int n] S :=
  ⟨A_fits S.nb S.w S.h S.g S.np S.X S.Y S.pe S.pf n, S, ok, fun _ _ r => a_fits_c ok.h ok.p r.h r.p n ⟨rfl, r⟩, fun _ _ r => a_fits_m ok.h ok.p r.h r.p n ⟨rfl, r⟩⟩
theorem t_seen (ok : ROk S) (a i j e : Int32) : Pd 5 6 q_GR_seen q_M_seen [.int a, .int i, .int j, .int e] S :=
  ⟨A_seen S.nb S.w S.h S.g S.X S.Y a i j e, S, ok, fun _ _ r => a_seen_c ok.h r.h a i j e (fun _ f => ⟨rfl, r.fr ok f⟩), fun _ _ r => a_seen_m ok.h r.h a i j e ⟨rfl, r⟩⟩
theorem t_view (ok : ROk S) (a e n : Int32) : Pd 6 7 q_GR_view q_M_view [.int a, .int e, .int n] S :=
  ⟨A_view S.nb S.w S.h S.g S.X S.Y a e n, S, ok, fun _ _ r => a_view_c ok.h r.h a e n (fun _ f => ⟨rfl, r.fr ok f⟩), fun _ _ r => a_view_m ok.h r.h a e n ⟨rfl, r⟩⟩
theorem t_walls (ok : ROk S) (e l : Int32) : Pd 7 8 q_GR_walls q_M_walls [.int e, .int l] S :=
  ⟨A_walls S.nb S.w S.h S.X S.Y e l, S, ok, fun _ _ r => a_walls_c ok.h r.h e l (fun _ f => ⟨rfl, r.fr ok f⟩), fun _ _ r => a_walls_m ok.h r.h e l (fun _ f H => ⟨rfl, r.t.fr f, H, r.a.fr f, r.k.fr f, r.p.fr f, r.l.fr f, r.g.fr f⟩)⟩
theorem t_hinge (ok : ROk S) (a p k : Int32) : Pd 5 4 q_GR_hinge q_M_hinge [.int a, .int p, .int k] S :=
  ⟨A_hinge a p k, S, ok, fun _ _ r => a_hinge_c  a p k ⟨rfl, r⟩, fun _ _ r => a_hinge_m  a p k (fun _ f => ⟨rfl, r.fr f⟩)⟩
theorem t_angles (ok : ROk S) (k i : Int32) : Pd 6 5 q_GR_angles q_M_angles [.int k, .int i] S :=
  ⟨A_angles k i, S, ok, fun _ _ r => a_angles_c  k i ⟨rfl, r⟩, fun _ _ r => a_angles_m  k i (fun _ f => ⟨rfl, r.fr f⟩)⟩
theorem t_near (ok : ROk S) (b e n k : Int32) : Pd 4 5 q_GR_near q_M_near [.int b, .int e, .int n, .int k] S :=
  ⟨A_near S.nb S.w S.h S.g S.X S.Y b e n k, S, ok, fun _ _ r => a_near_c ok.h r.h b e n k (fun _ f => ⟨rfl, r.fr ok f⟩), fun _ _ r => a_near_m ok.h r.h b e n k (fun _ f => ⟨rfl, r.fr f⟩)⟩
theorem t_within (ok : ROk S) (b e k : Int32) : Pd 4 5 q_GR_within q_M_within [.int b, .int e, .int k] S :=
  ⟨A_within S.nb S.w S.h S.g S.X S.Y b e k, S, ok, fun _ _ r => a_within_c ok.h r.h b e k (fun _ f => ⟨rfl, r.fr ok f⟩), fun _ _ r => a_within_m ok.h r.h b e k (fun _ f => ⟨rfl, r.fr f⟩)⟩
theorem t_ways (ok : ROk S) (b o n : Int32) : Pd 3 4 q_GR_ways q_M_ways [.int b, .int o, .int n] S :=
  ⟨A_ways S.nb S.w S.h S.X S.Y b o n, S, ok, fun _ _ r => a_ways_c ok.h r.h b o n (fun _ f => ⟨rfl, r.fr ok f⟩), fun _ _ r => a_ways_m ok.h r.h b o n ⟨rfl, r⟩⟩
theorem t_count (ok : ROk S) (k : Int32) : Pd 1 1 q_GR_count q_M_count [.int k] S :=
  ⟨A_count S.nb S.w S.h S.g S.t S.nl S.n S.np S.na S.hd k, S, ok, fun _ _ r => Exists.elim r.a (fun _ ra => a_count_c r.t r.h r.l r.p ra k ⟨rfl, r⟩), fun _ _ r => a_count_m r.t r.h r.l r.p r.a k ⟨rfl, r⟩⟩
end PAQ

/-! a new object of each side: the empty state -/
def hC0 : rx_Hp := (fun k j => if k = 0 then (if j = 15 then -1 else 0) else 0, fun _ _ => 0, 16)
def hM0 : rx_Hp := (fun _ j => if j = 28 then -1 else 0, fun _ _ => 0, 0)
def S0 : Gs := ((0, fun _ => 0), (0, 0, 0, 0, 0, fun _ => 0, fun _ => 0, fun _ => 0), (0, fun _ _ => 0), (0, fun _ => 0), (0, fun _ => 0, fun _ => 0), (0, -1, fun _ => []))
theorem S0_ok : ROk S0 := ⟨⟨by decide, fun i hi => absurd hi (Nat.not_lt_zero i)⟩, ⟨by decide, by decide, by decide, by decide, by decide, fun z => absurd z (by decide), fun b hb => absurd hb (Nat.not_lt_zero b)⟩, ⟨by decide, fun k hk => absurd hk (Nat.not_lt_zero k)⟩, ⟨by decide, fun z => absurd z (by decide)⟩, ⟨by decide, fun k hk => absurd hk (Nat.not_lt_zero k)⟩, ⟨by decide, by decide, by decide⟩, fun i hi => absurd hi (Nat.not_lt_zero i)⟩
theorem S0_c : RC S0 hC0 := ⟨⟨by decide, fun i hi => absurd hi (Nat.not_lt_zero i)⟩, ⟨⟨by decide, by decide, by decide, by decide, by decide⟩, fun b hb => absurd hb (Nat.not_lt_zero b), fun z => absurd z (by decide)⟩, ⟨0, by decide, by decide, by decide, fun k hk => absurd hk (Nat.not_lt_zero k)⟩, ⟨by decide, fun z => absurd z (by decide)⟩, ⟨by decide, fun k hk => absurd hk (Nat.not_lt_zero k)⟩, ⟨by decide, by decide⟩, fun i hi => absurd hi (Nat.not_lt_zero i)⟩
theorem S0_m : RM S0 hM0 := ⟨⟨by decide, fun i hi => absurd hi (Nat.not_lt_zero i)⟩, ⟨⟨by decide, by decide, by decide, by decide, by decide⟩, fun b hb => absurd hb (Nat.not_lt_zero b)⟩, ⟨by decide, fun k hk => absurd hk (Nat.not_lt_zero k)⟩, ⟨by decide, fun z => absurd z (by decide)⟩, ⟨by decide, fun k hk => absurd hk (Nat.not_lt_zero k)⟩, ⟨by decide, by decide⟩, fun i hi => absurd hi (Nat.not_lt_zero i)⟩
/-- addresses by numbers: those of a list, then others -/
def adL (l : List Nat) (ad : Nat → Nat) : Nat → Nat := fun k => if k < 1000 then l.getD k 0 else ad k
set_option maxRecDepth 20000 in
set_option maxHeartbeats 4000000 in
theorem new_c {G : rx_Gh} {cA : ClassId} {sz : Nat} (h0 a1 a2 a3 a4 a5 a6 a7 a8 a9 a10 a11 a12 a13 a14 a15 a16 a17 a18 a19 a20 a21 a22 a23 a24 a25 a26 a27 a28 a29 a30 a31 a32 a33 a34 a35 a36 a37 a38 a39 a40 a41 a42 a43 a44 a45 a46 a47 a48 a49 : Nat) : [(h0, .inr (11, [.ref a1, .ref a3, .ref a8, .ref a15, .ref a19, .ref a35, .ref a36, .ref a37, .ref a39, .ref a40, .ref a43, .ref a44, .ref a46, .ref a47, .int 0, .int (-1), .int 0])), (a1, .inr (10, [.ref a2, .int 0, .int 0])), (a2, rc_r G 160), (a3, .inr (3, [.ref a4, .ref a5, .ref a6, .ref a7, .int 0, .int 0, .int 0, .int 0, .int 0])), (a4, rc_r G 6), (a5, rc_r G 6), (a6, rc_r G 6), (a7, rc_r G 21), (a8, .inr (4, [.ref a1, .ref a9, .ref a10, .int 0])), (a9, rc_r G 7), (a10, .inr (3, [.ref a11, .ref a12, .ref a13, .ref a14, .int 0, .int 0, .int 0, .int 0, .int 0])), (a11, rc_r G 6), (a12, rc_r G 6), (a13, rc_r G 6), (a14, rc_r G 21), (a15, .inr (7, [.ref a1, .ref a16])), (a16, .inr (6, [.ref a17, .ref a18, .int 0])), (a17, rc_r G 160), (a18, rc_r G 160), (a19, .inl (cA, 5, .inr (.inr (.inr (.inr (va_up (va_up (va_up (va_up (va_up (fun _ => none) (0 : Int32).toNatClampNeg (some a20)) (1 : Int32).toNatClampNeg (some a23)) (2 : Int32).toNatClampNeg (some a26)) (3 : Int32).toNatClampNeg (some a29)) (4 : Int32).toNatClampNeg (some a32))))))), (a20, .inr (6, [.ref a21, .ref a22, .int 0])), (a21, rc_r G 160), (a22, rc_r G 160), (a23, .inr (6, [.ref a24, .ref a25, .int 0])), (a24, rc_r G 160), (a25, rc_r G 160), (a26, .inr (6, [.ref a27, .ref a28, .int 0])), (a27, rc_r G 160), (a28, rc_r G 160), (a29, .inr (6, [.ref a30, .ref a31, .int 0])), (a30, rc_r G 160), (a31, rc_r G 160), (a32, .inr (6, [.ref a33, .ref a34, .int 0])), (a33, rc_r G 160), (a34, rc_r G 160), (a35, rc_r G 6), (a36, rc_r G 160), (a37, .inr (0, [.ref a38, .int 0, .int 0])), (a38, rc_r G 520), (a39, rc_r G 13), (a40, .inr (2, [.ref a3, .ref a41, .ref a42, .int 0, .int 0, .int 0, .int 0, .int 0, .int 0, .int 0])), (a41, rc_r G 21), (a42, rc_r G 21), (a43, .inr (9, [.ref a3, .int 0, .int 0, .int 0, .int 0, .int 0, .int 0, .int 0, .int 0])), (a44, .inr (1, [.ref a3, .ref a45, .int 0, .int 0])), (a45, rc_r G 40), (a46, .inr (5, [.ref a3, .int 0, .int 0])), (a47, .inr (8, [.ref a3, .ref a48, .ref a49, .int 0])), (a48, rc_r G 12), (a49, rc_r G 12)] = rx_wd wC (G.1, G.2.1, adL [h0, a1, a2, a3, a4, a5, a6, a7, a8, a9, a10, a11, a12, a13, a14, a15, a16, a17, a18, a19, a20, a21, a22, a23, a24, a25, a26, a27, a28, a29, a30, a31, a32, a33, a34, a35, a36, a37, a38, a39, a40, a41, a42, a43, a44, a45, a46, a47, a48, a49] G.2.2.1, G.2.2.2.1, cA, sz) hC0 := by
  have hf : (va_up (va_up (va_up (va_up (va_up (fun _ => none) (0 : Int32).toNatClampNeg (some a20)) (1 : Int32).toNatClampNeg (some a23)) (2 : Int32).toNatClampNeg (some a26)) (3 : Int32).toNatClampNeg (some a29)) (4 : Int32).toNatClampNeg (some a32)) = fun i => (wC.2.2 hC0.2.2 19 i).map (adL [h0, a1, a2, a3, a4, a5, a6, a7, a8, a9, a10, a11, a12, a13, a14, a15, a16, a17, a18, a19, a20, a21, a22, a23, a24, a25, a26, a27, a28, a29, a30, a31, a32, a33, a34, a35, a36, a37, a38, a39, a40, a41, a42, a43, a44, a45, a46, a47, a48, a49] G.2.2.1) := by
    funext i
    match i with
    | 0 => rfl
    | 1 => rfl
    | 2 => rfl
    | 3 => rfl
    | 4 => rfl
    | n + 5 => rfl
  rw [hf]
  generalize hg : (G.1, G.2.1, adL [h0, a1, a2, a3, a4, a5, a6, a7, a8, a9, a10, a11, a12, a13, a14, a15, a16, a17, a18, a19, a20, a21, a22, a23, a24, a25, a26, a27, a28, a29, a30, a31, a32, a33, a34, a35, a36, a37, a38, a39, a40, a41, a42, a43, a44, a45, a46, a47, a48, a49] G.2.2.1, G.2.2.2.1, cA, sz) = G1
  have c0 : rx_cell wC G1 hC0 0 = .inr (11, [.ref a1, .ref a3, .ref a8, .ref a15, .ref a19, .ref a35, .ref a36, .ref a37, .ref a39, .ref a40, .ref a43, .ref a44, .ref a46, .ref a47, .int 0, .int (-1), .int 0]) := by
    subst hg
    show (Sum.inr (11, rx_fs wC _ hC0 0 (rx_sh 11)) : va_E) = _
    rw [show rx_sh 11 = [true, true, true, true, true, true, true, true, true, true, true, true, true, true, false, false, false] from rfl]
    unfold rx_fs
    simp only [List.mapIdx_cons, List.mapIdx_nil]
    rfl
  have d0 : G1.2.2.1 0 = h0 := by subst hg; rfl
  have c1 : rx_cell wC G1 hC0 1 = .inr (10, [.ref a2, .int 0, .int 0]) := by
    subst hg
    show (Sum.inr (10, rx_fs wC _ hC0 1 (rx_sh 10)) : va_E) = _
    rw [show rx_sh 10 = [true, false, false] from rfl]
    unfold rx_fs
    simp only [List.mapIdx_cons, List.mapIdx_nil]
    rfl
  have d1 : G1.2.2.1 1 = a1 := by subst hg; rfl
  have c2 : rx_cell wC G1 hC0 2 = rc_r G 160 := by subst hg; rfl
  have d2 : G1.2.2.1 2 = a2 := by subst hg; rfl
  have c3 : rx_cell wC G1 hC0 3 = .inr (3, [.ref a4, .ref a5, .ref a6, .ref a7, .int 0, .int 0, .int 0, .int 0, .int 0]) := by
    subst hg
    show (Sum.inr (3, rx_fs wC _ hC0 3 (rx_sh 3)) : va_E) = _
    rw [show rx_sh 3 = [true, true, true, true, false, false, false, false, false] from rfl]
    unfold rx_fs
    simp only [List.mapIdx_cons, List.mapIdx_nil]
    rfl
  have d3 : G1.2.2.1 3 = a3 := by subst hg; rfl
  have c4 : rx_cell wC G1 hC0 4 = rc_r G 6 := by subst hg; rfl
  have d4 : G1.2.2.1 4 = a4 := by subst hg; rfl
  have c5 : rx_cell wC G1 hC0 5 = rc_r G 6 := by subst hg; rfl
  have d5 : G1.2.2.1 5 = a5 := by subst hg; rfl
  have c6 : rx_cell wC G1 hC0 6 = rc_r G 6 := by subst hg; rfl
  have d6 : G1.2.2.1 6 = a6 := by subst hg; rfl
  have c7 : rx_cell wC G1 hC0 7 = rc_r G 21 := by subst hg; rfl
  have d7 : G1.2.2.1 7 = a7 := by subst hg; rfl
  have c8 : rx_cell wC G1 hC0 8 = .inr (4, [.ref a1, .ref a9, .ref a10, .int 0]) := by
    subst hg
    show (Sum.inr (4, rx_fs wC _ hC0 8 (rx_sh 4)) : va_E) = _
    rw [show rx_sh 4 = [true, true, true, false] from rfl]
    unfold rx_fs
    simp only [List.mapIdx_cons, List.mapIdx_nil]
    rfl
  have d8 : G1.2.2.1 8 = a8 := by subst hg; rfl
  have c9 : rx_cell wC G1 hC0 9 = rc_r G 7 := by subst hg; rfl
  have d9 : G1.2.2.1 9 = a9 := by subst hg; rfl
  have c10 : rx_cell wC G1 hC0 10 = .inr (3, [.ref a11, .ref a12, .ref a13, .ref a14, .int 0, .int 0, .int 0, .int 0, .int 0]) := by
    subst hg
    show (Sum.inr (3, rx_fs wC _ hC0 10 (rx_sh 3)) : va_E) = _
    rw [show rx_sh 3 = [true, true, true, true, false, false, false, false, false] from rfl]
    unfold rx_fs
    simp only [List.mapIdx_cons, List.mapIdx_nil]
    rfl
  have d10 : G1.2.2.1 10 = a10 := by subst hg; rfl
  have c11 : rx_cell wC G1 hC0 11 = rc_r G 6 := by subst hg; rfl
  have d11 : G1.2.2.1 11 = a11 := by subst hg; rfl
  have c12 : rx_cell wC G1 hC0 12 = rc_r G 6 := by subst hg; rfl
  have d12 : G1.2.2.1 12 = a12 := by subst hg; rfl
  have c13 : rx_cell wC G1 hC0 13 = rc_r G 6 := by subst hg; rfl
  have d13 : G1.2.2.1 13 = a13 := by subst hg; rfl
  have c14 : rx_cell wC G1 hC0 14 = rc_r G 21 := by subst hg; rfl
  have d14 : G1.2.2.1 14 = a14 := by subst hg; rfl
  have c15 : rx_cell wC G1 hC0 15 = .inr (7, [.ref a1, .ref a16]) := by
    subst hg
    show (Sum.inr (7, rx_fs wC _ hC0 15 (rx_sh 7)) : va_E) = _
    rw [show rx_sh 7 = [true, true] from rfl]
    unfold rx_fs
    simp only [List.mapIdx_cons, List.mapIdx_nil]
    rfl
  have d15 : G1.2.2.1 15 = a15 := by subst hg; rfl
  have c16 : rx_cell wC G1 hC0 16 = .inr (6, [.ref a17, .ref a18, .int 0]) := by
    subst hg
    show (Sum.inr (6, rx_fs wC _ hC0 16 (rx_sh 6)) : va_E) = _
    rw [show rx_sh 6 = [true, true, false] from rfl]
    unfold rx_fs
    simp only [List.mapIdx_cons, List.mapIdx_nil]
    rfl
  have d16 : G1.2.2.1 16 = a16 := by subst hg; rfl
  have c17 : rx_cell wC G1 hC0 17 = rc_r G 160 := by subst hg; rfl
  have d17 : G1.2.2.1 17 = a17 := by subst hg; rfl
  have c18 : rx_cell wC G1 hC0 18 = rc_r G 160 := by subst hg; rfl
  have d18 : G1.2.2.1 18 = a18 := by subst hg; rfl
  have c19 : rx_cell wC G1 hC0 19 = .inl (cA, 5, .inr (.inr (.inr (.inr (fun i => (wC.2.2 hC0.2.2 19 i).map (adL [h0, a1, a2, a3, a4, a5, a6, a7, a8, a9, a10, a11, a12, a13, a14, a15, a16, a17, a18, a19, a20, a21, a22, a23, a24, a25, a26, a27, a28, a29, a30, a31, a32, a33, a34, a35, a36, a37, a38, a39, a40, a41, a42, a43, a44, a45, a46, a47, a48, a49] G.2.2.1)))))) := by subst hg; rfl
  have d19 : G1.2.2.1 19 = a19 := by subst hg; rfl
  have c20 : rx_cell wC G1 hC0 20 = .inr (6, [.ref a21, .ref a22, .int 0]) := by
    subst hg
    show (Sum.inr (6, rx_fs wC _ hC0 20 (rx_sh 6)) : va_E) = _
    rw [show rx_sh 6 = [true, true, false] from rfl]
    unfold rx_fs
    simp only [List.mapIdx_cons, List.mapIdx_nil]
    rfl
  have d20 : G1.2.2.1 20 = a20 := by subst hg; rfl
  have c21 : rx_cell wC G1 hC0 21 = rc_r G 160 := by subst hg; rfl
  have d21 : G1.2.2.1 21 = a21 := by subst hg; rfl
  have c22 : rx_cell wC G1 hC0 22 = rc_r G 160 := by subst hg; rfl
  have d22 : G1.2.2.1 22 = a22 := by subst hg; rfl
  have c23 : rx_cell wC G1 hC0 23 = .inr (6, [.ref a24, .ref a25, .int 0]) := by
    subst hg
    show (Sum.inr (6, rx_fs wC _ hC0 23 (rx_sh 6)) : va_E) = _
    rw [show rx_sh 6 = [true, true, false] from rfl]
    unfold rx_fs
    simp only [List.mapIdx_cons, List.mapIdx_nil]
    rfl
  have d23 : G1.2.2.1 23 = a23 := by subst hg; rfl
  have c24 : rx_cell wC G1 hC0 24 = rc_r G 160 := by subst hg; rfl
  have d24 : G1.2.2.1 24 = a24 := by subst hg; rfl
  have c25 : rx_cell wC G1 hC0 25 = rc_r G 160 := by subst hg; rfl
  have d25 : G1.2.2.1 25 = a25 := by subst hg; rfl
  have c26 : rx_cell wC G1 hC0 26 = .inr (6, [.ref a27, .ref a28, .int 0]) := by
    subst hg
    show (Sum.inr (6, rx_fs wC _ hC0 26 (rx_sh 6)) : va_E) = _
    rw [show rx_sh 6 = [true, true, false] from rfl]
    unfold rx_fs
    simp only [List.mapIdx_cons, List.mapIdx_nil]
    rfl
  have d26 : G1.2.2.1 26 = a26 := by subst hg; rfl
  have c27 : rx_cell wC G1 hC0 27 = rc_r G 160 := by subst hg; rfl
  have d27 : G1.2.2.1 27 = a27 := by subst hg; rfl
  have c28 : rx_cell wC G1 hC0 28 = rc_r G 160 := by subst hg; rfl
  have d28 : G1.2.2.1 28 = a28 := by subst hg; rfl
  have c29 : rx_cell wC G1 hC0 29 = .inr (6, [.ref a30, .ref a31, .int 0]) := by
    subst hg
    show (Sum.inr (6, rx_fs wC _ hC0 29 (rx_sh 6)) : va_E) = _
    rw [show rx_sh 6 = [true, true, false] from rfl]
    unfold rx_fs
    simp only [List.mapIdx_cons, List.mapIdx_nil]
    rfl
  have d29 : G1.2.2.1 29 = a29 := by subst hg; rfl
  have c30 : rx_cell wC G1 hC0 30 = rc_r G 160 := by subst hg; rfl
  have d30 : G1.2.2.1 30 = a30 := by subst hg; rfl
  have c31 : rx_cell wC G1 hC0 31 = rc_r G 160 := by subst hg; rfl
  have d31 : G1.2.2.1 31 = a31 := by subst hg; rfl
  have c32 : rx_cell wC G1 hC0 32 = .inr (6, [.ref a33, .ref a34, .int 0]) := by
    subst hg
    show (Sum.inr (6, rx_fs wC _ hC0 32 (rx_sh 6)) : va_E) = _
    rw [show rx_sh 6 = [true, true, false] from rfl]
    unfold rx_fs
    simp only [List.mapIdx_cons, List.mapIdx_nil]
    rfl
  have d32 : G1.2.2.1 32 = a32 := by subst hg; rfl
  have c33 : rx_cell wC G1 hC0 33 = rc_r G 160 := by subst hg; rfl
  have d33 : G1.2.2.1 33 = a33 := by subst hg; rfl
  have c34 : rx_cell wC G1 hC0 34 = rc_r G 160 := by subst hg; rfl
  have d34 : G1.2.2.1 34 = a34 := by subst hg; rfl
  have c35 : rx_cell wC G1 hC0 35 = rc_r G 6 := by subst hg; rfl
  have d35 : G1.2.2.1 35 = a35 := by subst hg; rfl
  have c36 : rx_cell wC G1 hC0 36 = rc_r G 160 := by subst hg; rfl
  have d36 : G1.2.2.1 36 = a36 := by subst hg; rfl
  have c37 : rx_cell wC G1 hC0 37 = .inr (0, [.ref a38, .int 0, .int 0]) := by
    subst hg
    show (Sum.inr (0, rx_fs wC _ hC0 37 (rx_sh 0)) : va_E) = _
    rw [show rx_sh 0 = [true, false, false] from rfl]
    unfold rx_fs
    simp only [List.mapIdx_cons, List.mapIdx_nil]
    rfl
  have d37 : G1.2.2.1 37 = a37 := by subst hg; rfl
  have c38 : rx_cell wC G1 hC0 38 = rc_r G 520 := by subst hg; rfl
  have d38 : G1.2.2.1 38 = a38 := by subst hg; rfl
  have c39 : rx_cell wC G1 hC0 39 = rc_r G 13 := by subst hg; rfl
  have d39 : G1.2.2.1 39 = a39 := by subst hg; rfl
  have c40 : rx_cell wC G1 hC0 40 = .inr (2, [.ref a3, .ref a41, .ref a42, .int 0, .int 0, .int 0, .int 0, .int 0, .int 0, .int 0]) := by
    subst hg
    show (Sum.inr (2, rx_fs wC _ hC0 40 (rx_sh 2)) : va_E) = _
    rw [show rx_sh 2 = [true, true, true, false, false, false, false, false, false, false] from rfl]
    unfold rx_fs
    simp only [List.mapIdx_cons, List.mapIdx_nil]
    rfl
  have d40 : G1.2.2.1 40 = a40 := by subst hg; rfl
  have c41 : rx_cell wC G1 hC0 41 = rc_r G 21 := by subst hg; rfl
  have d41 : G1.2.2.1 41 = a41 := by subst hg; rfl
  have c42 : rx_cell wC G1 hC0 42 = rc_r G 21 := by subst hg; rfl
  have d42 : G1.2.2.1 42 = a42 := by subst hg; rfl
  have c43 : rx_cell wC G1 hC0 43 = .inr (9, [.ref a3, .int 0, .int 0, .int 0, .int 0, .int 0, .int 0, .int 0, .int 0]) := by
    subst hg
    show (Sum.inr (9, rx_fs wC _ hC0 43 (rx_sh 9)) : va_E) = _
    rw [show rx_sh 9 = [true, false, false, false, false, false, false, false, false] from rfl]
    unfold rx_fs
    simp only [List.mapIdx_cons, List.mapIdx_nil]
    rfl
  have d43 : G1.2.2.1 43 = a43 := by subst hg; rfl
  have c44 : rx_cell wC G1 hC0 44 = .inr (1, [.ref a3, .ref a45, .int 0, .int 0]) := by
    subst hg
    show (Sum.inr (1, rx_fs wC _ hC0 44 (rx_sh 1)) : va_E) = _
    rw [show rx_sh 1 = [true, true, false, false] from rfl]
    unfold rx_fs
    simp only [List.mapIdx_cons, List.mapIdx_nil]
    rfl
  have d44 : G1.2.2.1 44 = a44 := by subst hg; rfl
  have c45 : rx_cell wC G1 hC0 45 = rc_r G 40 := by subst hg; rfl
  have d45 : G1.2.2.1 45 = a45 := by subst hg; rfl
  have c46 : rx_cell wC G1 hC0 46 = .inr (5, [.ref a3, .int 0, .int 0]) := by
    subst hg
    show (Sum.inr (5, rx_fs wC _ hC0 46 (rx_sh 5)) : va_E) = _
    rw [show rx_sh 5 = [true, false, false] from rfl]
    unfold rx_fs
    simp only [List.mapIdx_cons, List.mapIdx_nil]
    rfl
  have d46 : G1.2.2.1 46 = a46 := by subst hg; rfl
  have c47 : rx_cell wC G1 hC0 47 = .inr (8, [.ref a3, .ref a48, .ref a49, .int 0]) := by
    subst hg
    show (Sum.inr (8, rx_fs wC _ hC0 47 (rx_sh 8)) : va_E) = _
    rw [show rx_sh 8 = [true, true, true, false] from rfl]
    unfold rx_fs
    simp only [List.mapIdx_cons, List.mapIdx_nil]
    rfl
  have d47 : G1.2.2.1 47 = a47 := by subst hg; rfl
  have c48 : rx_cell wC G1 hC0 48 = rc_r G 12 := by subst hg; rfl
  have d48 : G1.2.2.1 48 = a48 := by subst hg; rfl
  have c49 : rx_cell wC G1 hC0 49 = rc_r G 12 := by subst hg; rfl
  have d49 : G1.2.2.1 49 = a49 := by subst hg; rfl
  unfold rx_wd
  rw [show List.range wC.1 = [0, 1, 2, 3, 4, 5, 6, 7, 8, 9, 10, 11, 12, 13, 14, 15, 16, 17, 18, 19, 20, 21, 22, 23, 24, 25, 26, 27, 28, 29, 30, 31, 32, 33, 34, 35, 36, 37, 38, 39, 40, 41, 42, 43, 44, 45, 46, 47, 48, 49] from by decide]
  simp only [List.map_cons, List.map_nil]
  rw [c0, d0, c1, d1, c2, d2, c3, d3, c4, d4, c5, d5, c6, d6, c7, d7, c8, d8, c9, d9, c10, d10, c11, d11, c12, d12, c13, d13, c14, d14, c15, d15, c16, d16, c17, d17, c18, d18, c19, d19, c20, d20, c21, d21, c22, d22, c23, d23, c24, d24, c25, d25, c26, d26, c27, d27, c28, d28, c29, d29, c30, d30, c31, d31, c32, d32, c33, d33, c34, d34, c35, d35, c36, d36, c37, d37, c38, d38, c39, d39, c40, d40, c41, d41, c42, d42, c43, d43, c44, d44, c45, d45, c46, d46, c47, d47, c48, d48, c49, d49]
set_option maxRecDepth 20000 in
set_option maxHeartbeats 4000000 in
theorem new_m {G : rx_Gh} {cA : ClassId} {sz : Nat} (h0 a1 a2 a3 a4 a5 a6 a7 a8 a9 a10 a11 a12 a13 a14 a15 a16 a17 a18 a19 a20 a21 a22 a23 : Nat) : [(h0, .inr (12, [.int 0, .ref a1, .int 0, .int 0, .int 0, .int 0, .ref a2, .ref a3, .ref a4, .ref a5, .ref a6, .ref a7, .ref a8, .int 0, .int 0, .ref a9, .ref a10, .ref a11, .ref a12, .int 0, .ref a13, .ref a14, .ref a15, .int 0, .int 0, .int 0, .int 0, .int 0, .int (-1), .ref a16, .int 0, .ref a17, .ref a18, .ref a19, .int 0, .int 0, .int 0, .ref a20, .int 0, .int 0, .ref a21, .ref a22, .int 0, .ref a23, .int 0])), (a1, rc_r G 160), (a2, rc_r G 1700), (a3, rc_r G 1700), (a4, rc_r G 5), (a5, rc_r G 5), (a6, rc_r G 450), (a7, rc_r G 450), (a8, rc_r G 450), (a9, rc_r G 6), (a10, rc_r G 80), (a11, rc_r G 4), (a12, rc_r G 18), (a13, rc_r G 6), (a14, rc_r G 6), (a15, rc_r G 6), (a16, rc_r G 520), (a17, rc_r G 441), (a18, rc_r G 441), (a19, rc_r G 441), (a20, rc_r G 360), (a21, rc_r G 12), (a22, rc_r G 12), (a23, rc_r G 13)] = rx_wd wM (G.1, G.2.1, adL [h0, a1, a2, a3, a4, a5, a6, a7, a8, a9, a10, a11, a12, a13, a14, a15, a16, a17, a18, a19, a20, a21, a22, a23] G.2.2.1, G.2.2.2.1, cA, sz) hM0 := by
  generalize hg : (G.1, G.2.1, adL [h0, a1, a2, a3, a4, a5, a6, a7, a8, a9, a10, a11, a12, a13, a14, a15, a16, a17, a18, a19, a20, a21, a22, a23] G.2.2.1, G.2.2.2.1, cA, sz) = G1
  have c0 : rx_cell wM G1 hM0 0 = .inr (12, [.int 0, .ref a1, .int 0, .int 0, .int 0, .int 0, .ref a2, .ref a3, .ref a4, .ref a5, .ref a6, .ref a7, .ref a8, .int 0, .int 0, .ref a9, .ref a10, .ref a11, .ref a12, .int 0, .ref a13, .ref a14, .ref a15, .int 0, .int 0, .int 0, .int 0, .int 0, .int (-1), .ref a16, .int 0, .ref a17, .ref a18, .ref a19, .int 0, .int 0, .int 0, .ref a20, .int 0, .int 0, .ref a21, .ref a22, .int 0, .ref a23, .int 0]) := by
    subst hg
    show (Sum.inr (12, rx_fs wM _ hM0 0 (rx_sh 12)) : va_E) = _
    rw [show rx_sh 12 = [false, true, false, false, false, false, true, true, true, true, true, true, true, false, false, true, true, true, true, false, true, true, true, false, false, false, false, false, false, true, false, true, true, true, false, false, false, true, false, false, true, true, false, true, false] from rfl]
    unfold rx_fs
    simp only [List.mapIdx_cons, List.mapIdx_nil]
    rfl
  have d0 : G1.2.2.1 0 = h0 := by subst hg; rfl
  have c1 : rx_cell wM G1 hM0 1 = rc_r G 160 := by subst hg; rfl
  have d1 : G1.2.2.1 1 = a1 := by subst hg; rfl
  have c2 : rx_cell wM G1 hM0 2 = rc_r G 1700 := by subst hg; rfl
  have d2 : G1.2.2.1 2 = a2 := by subst hg; rfl
  have c3 : rx_cell wM G1 hM0 3 = rc_r G 1700 := by subst hg; rfl
  have d3 : G1.2.2.1 3 = a3 := by subst hg; rfl
  have c4 : rx_cell wM G1 hM0 4 = rc_r G 5 := by subst hg; rfl
  have d4 : G1.2.2.1 4 = a4 := by subst hg; rfl
  have c5 : rx_cell wM G1 hM0 5 = rc_r G 5 := by subst hg; rfl
  have d5 : G1.2.2.1 5 = a5 := by subst hg; rfl
  have c6 : rx_cell wM G1 hM0 6 = rc_r G 450 := by subst hg; rfl
  have d6 : G1.2.2.1 6 = a6 := by subst hg; rfl
  have c7 : rx_cell wM G1 hM0 7 = rc_r G 450 := by subst hg; rfl
  have d7 : G1.2.2.1 7 = a7 := by subst hg; rfl
  have c8 : rx_cell wM G1 hM0 8 = rc_r G 450 := by subst hg; rfl
  have d8 : G1.2.2.1 8 = a8 := by subst hg; rfl
  have c9 : rx_cell wM G1 hM0 9 = rc_r G 6 := by subst hg; rfl
  have d9 : G1.2.2.1 9 = a9 := by subst hg; rfl
  have c10 : rx_cell wM G1 hM0 10 = rc_r G 80 := by subst hg; rfl
  have d10 : G1.2.2.1 10 = a10 := by subst hg; rfl
  have c11 : rx_cell wM G1 hM0 11 = rc_r G 4 := by subst hg; rfl
  have d11 : G1.2.2.1 11 = a11 := by subst hg; rfl
  have c12 : rx_cell wM G1 hM0 12 = rc_r G 18 := by subst hg; rfl
  have d12 : G1.2.2.1 12 = a12 := by subst hg; rfl
  have c13 : rx_cell wM G1 hM0 13 = rc_r G 6 := by subst hg; rfl
  have d13 : G1.2.2.1 13 = a13 := by subst hg; rfl
  have c14 : rx_cell wM G1 hM0 14 = rc_r G 6 := by subst hg; rfl
  have d14 : G1.2.2.1 14 = a14 := by subst hg; rfl
  have c15 : rx_cell wM G1 hM0 15 = rc_r G 6 := by subst hg; rfl
  have d15 : G1.2.2.1 15 = a15 := by subst hg; rfl
  have c16 : rx_cell wM G1 hM0 16 = rc_r G 520 := by subst hg; rfl
  have d16 : G1.2.2.1 16 = a16 := by subst hg; rfl
  have c17 : rx_cell wM G1 hM0 17 = rc_r G 441 := by subst hg; rfl
  have d17 : G1.2.2.1 17 = a17 := by subst hg; rfl
  have c18 : rx_cell wM G1 hM0 18 = rc_r G 441 := by subst hg; rfl
  have d18 : G1.2.2.1 18 = a18 := by subst hg; rfl
  have c19 : rx_cell wM G1 hM0 19 = rc_r G 441 := by subst hg; rfl
  have d19 : G1.2.2.1 19 = a19 := by subst hg; rfl
  have c20 : rx_cell wM G1 hM0 20 = rc_r G 360 := by subst hg; rfl
  have d20 : G1.2.2.1 20 = a20 := by subst hg; rfl
  have c21 : rx_cell wM G1 hM0 21 = rc_r G 12 := by subst hg; rfl
  have d21 : G1.2.2.1 21 = a21 := by subst hg; rfl
  have c22 : rx_cell wM G1 hM0 22 = rc_r G 12 := by subst hg; rfl
  have d22 : G1.2.2.1 22 = a22 := by subst hg; rfl
  have c23 : rx_cell wM G1 hM0 23 = rc_r G 13 := by subst hg; rfl
  have d23 : G1.2.2.1 23 = a23 := by subst hg; rfl
  unfold rx_wd
  rw [show List.range wM.1 = [0, 1, 2, 3, 4, 5, 6, 7, 8, 9, 10, 11, 12, 13, 14, 15, 16, 17, 18, 19, 20, 21, 22, 23] from by decide]
  simp only [List.map_cons, List.map_nil]
  rw [c0, d0, c1, d1, c2, d2, c3, d3, c4, d4, c5, d5, c6, d6, c7, d7, c8, d8, c9, d9, c10, d10, c11, d11, c12, d12, c13, d13, c14, d14, c15, d15, c16, d16, c17, d17, c18, d18, c19, d19, c20, d20, c21, d21, c22, d22, c23, d23]

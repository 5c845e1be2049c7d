section RXR
variable {Ω : rx_Om} {G : rx_Gh} {d : Nat} {q : rx_Mi} {pc : Nat} {lv : List (Option Value)} {st : List Value} {hp : rx_Hp} {Q : rx_Po}
theorem r_iconst {n : Int} {v : Int32} (hd : decode q.2.1 pc = .ok (.iconst n, 1)) (hv : Int32.ofInt n = v) (k : Rn Ω G d q (pc + 1) lv (.int v :: st) hp Q) : Rn Ω G d q pc lv (st) hp Q :=
  fun p e s m args below meth c H locs ls C hl hP hS => lv_iconst C.1 C.2.1 hd hv (k p e s m args below meth c H locs ls C hl hP hS)
theorem r_bipush {n : Int} {v : Int32} (hd : decode q.2.1 pc = .ok (.bipush n, 2)) (hv : (Int8.ofInt n).toInt32 = v) (k : Rn Ω G d q (pc + 2) lv (.int v :: st) hp Q) : Rn Ω G d q pc lv (st) hp Q :=
  fun p e s m args below meth c H locs ls C hl hP hS => lv_bipush C.1 C.2.1 hd hv (k p e s m args below meth c H locs ls C hl hP hS)
theorem r_sipush {n : Int} {v : Int32} (hd : decode q.2.1 pc = .ok (.sipush n, 3)) (hv : (Int16.ofInt n).toInt32 = v) (k : Rn Ω G d q (pc + 3) lv (.int v :: st) hp Q) : Rn Ω G d q pc lv (st) hp Q :=
  fun p e s m args below meth c H locs ls C hl hP hS => lv_sipush C.1 C.2.1 hd hv (k p e s m args below meth c H locs ls C hl hP hS)
theorem r_lconst {n : Fin 2} {v : Int64} (hd : decode q.2.1 pc = .ok (.lconst n, 1)) (hv : Int64.ofNat (n : Nat) = v) (k : Rn Ω G d q (pc + 1) lv (.long v :: st) hp Q) : Rn Ω G d q pc lv st hp Q :=
  fun p e s m args below meth c H locs ls C hl hP hS => lv_lconst C.1 C.2.1 hd hv (k p e s m args below meth c H locs ls C hl hP hS)
theorem r_iload_n {f : Fin 4} {i : Nat} {x : Int32} (hd : decode q.2.1 pc = .ok (.iload_n f, 1)) (hi : (f : Nat) = i) (hx : lv[i]? = some (some (.int x))) (k : Rn Ω G d q (pc + 1) lv (.int x :: st) hp Q) : Rn Ω G d q pc lv st hp Q :=
  fun p e s m args below meth c H locs ls C hl hP hS => lv_iload_n C.1 C.2.1 hd hi (rx_ld hl hx) (k p e s m args below meth c H locs ls C hl hP hS)
theorem r_iload {i : Nat} {x : Int32} (hd : decode q.2.1 pc = .ok (.iload i, 2)) (hx : lv[i]? = some (some (.int x))) (k : Rn Ω G d q (pc + 2) lv (.int x :: st) hp Q) : Rn Ω G d q pc lv st hp Q :=
  fun p e s m args below meth c H locs ls C hl hP hS => lv_iload C.1 C.2.1 hd (rx_ld hl hx) (k p e s m args below meth c H locs ls C hl hP hS)
theorem r_lload_n {f : Fin 4} {i : Nat} {x : Int64} (hd : decode q.2.1 pc = .ok (.lload_n f, 1)) (hi : (f : Nat) = i) (hx : lv[i]? = some (some (.long x))) (k : Rn Ω G d q (pc + 1) lv (.long x :: st) hp Q) : Rn Ω G d q pc lv st hp Q :=
  fun p e s m args below meth c H locs ls C hl hP hS => lv_lload_n C.1 C.2.1 hd hi (rx_ld hl hx) (k p e s m args below meth c H locs ls C hl hP hS)
theorem r_lload {i : Nat} {x : Int64} (hd : decode q.2.1 pc = .ok (.lload i, 2)) (hx : lv[i]? = some (some (.long x))) (k : Rn Ω G d q (pc + 2) lv (.long x :: st) hp Q) : Rn Ω G d q pc lv st hp Q :=
  fun p e s m args below meth c H locs ls C hl hP hS => lv_lload C.1 C.2.1 hd (rx_ld hl hx) (k p e s m args below meth c H locs ls C hl hP hS)
theorem r_aload_n {f : Fin 4} {i : Nat} {x : Nat} (hd : decode q.2.1 pc = .ok (.aload_n f, 1)) (hi : (f : Nat) = i) (hx : lv[i]? = some (some (.ref x))) (k : Rn Ω G d q (pc + 1) lv (.ref x :: st) hp Q) : Rn Ω G d q pc lv st hp Q :=
  fun p e s m args below meth c H locs ls C hl hP hS => lv_aload_n C.1 C.2.1 hd hi (rx_ld hl hx) (k p e s m args below meth c H locs ls C hl hP hS)
theorem r_aload {i : Nat} {x : Nat} (hd : decode q.2.1 pc = .ok (.aload i, 2)) (hx : lv[i]? = some (some (.ref x))) (k : Rn Ω G d q (pc + 2) lv (.ref x :: st) hp Q) : Rn Ω G d q pc lv st hp Q :=
  fun p e s m args below meth c H locs ls C hl hP hS => lv_aload C.1 C.2.1 hd (rx_ld hl hx) (k p e s m args below meth c H locs ls C hl hP hS)
theorem r_istore_n {f : Fin 4} {i : Nat} {x : Int32} (hd : decode q.2.1 pc = .ok (.istore_n f, 1)) (hi : (f : Nat) = i) (hn : i < q.2.2.1) (ho : rx_okS lv i = true) {lz : List (Option Value)} (he : lv.set i (some (.int x)) = lz) (k : Rn Ω G d q (pc + 1) lz st hp Q) : Rn Ω G d q pc lv (.int x :: st) hp Q :=
  fun p e s m args below meth c H locs ls C hl hP hS => lv_istore_n C.1 C.2.1 hd hi hl hn rfl (fun ls h => k p e s m args below meth c H locs ls C (he ▸ rx_st1 (v := .int x) h ho) hP hS)
theorem r_istore {i : Nat} {x : Int32} (hd : decode q.2.1 pc = .ok (.istore i, 2)) (hn : i < q.2.2.1) (ho : rx_okS lv i = true) {lz : List (Option Value)} (he : lv.set i (some (.int x)) = lz) (k : Rn Ω G d q (pc + 2) lz st hp Q) : Rn Ω G d q pc lv (.int x :: st) hp Q :=
  fun p e s m args below meth c H locs ls C hl hP hS => lv_istore C.1 C.2.1 hd hl hn rfl (fun ls h => k p e s m args below meth c H locs ls C (he ▸ rx_st1 (v := .int x) h ho) hP hS)
theorem r_astore_n {f : Fin 4} {i : Nat} {x : Nat} (hd : decode q.2.1 pc = .ok (.astore_n f, 1)) (hi : (f : Nat) = i) (hn : i < q.2.2.1) (ho : rx_okS lv i = true) {lz : List (Option Value)} (he : lv.set i (some (.ref x)) = lz) (k : Rn Ω G d q (pc + 1) lz st hp Q) : Rn Ω G d q pc lv (.ref x :: st) hp Q :=
  fun p e s m args below meth c H locs ls C hl hP hS => lv_astore_n C.1 C.2.1 hd hi hl hn rfl (fun ls h => k p e s m args below meth c H locs ls C (he ▸ rx_st1 (v := .ref x) h ho) hP hS)
theorem r_astore {i : Nat} {x : Nat} (hd : decode q.2.1 pc = .ok (.astore i, 2)) (hn : i < q.2.2.1) (ho : rx_okS lv i = true) {lz : List (Option Value)} (he : lv.set i (some (.ref x)) = lz) (k : Rn Ω G d q (pc + 2) lz st hp Q) : Rn Ω G d q pc lv (.ref x :: st) hp Q :=
  fun p e s m args below meth c H locs ls C hl hP hS => lv_astore C.1 C.2.1 hd hl hn rfl (fun ls h => k p e s m args below meth c H locs ls C (he ▸ rx_st1 (v := .ref x) h ho) hP hS)
theorem r_lstore {i : Nat} {x : Int64} (hd : decode q.2.1 pc = .ok (.lstore i, 2)) (hn : i + 1 < q.2.2.1) (ho : rx_okS lv i = true) {lz : List (Option Value)} (he : (lv.set i (some (.long x))).set (i + 1) none = lz) (k : Rn Ω G d q (pc + 2) lz st hp Q) : Rn Ω G d q pc lv (.long x :: st) hp Q :=
  fun p e s m args below meth c H locs ls C hl hP hS => lv_lstore C.1 C.2.1 hd hl hn rfl (fun ls h => k p e s m args below meth c H locs ls C (he ▸ rx_st2 (v := .long x) h ho) hP hS)
theorem r_iinc {i : Nat} {n : Int} {x v : Int32} (hd : decode q.2.1 pc = .ok (.iinc i n, 3)) (hx : lv[i]? = some (some (.int x))) (hv : x + Int32.ofInt n = v) (hn : i < q.2.2.1) (ho : rx_okS lv i = true) {lz : List (Option Value)} (he : lv.set i (some (.int v)) = lz) (k : Rn Ω G d q (pc + 3) lz st hp Q) : Rn Ω G d q pc lv st hp Q := by
  intro p e s m args below meth c H locs ls C hl hP hS
  obtain ⟨j, hj⟩ := List.getElem?_of_mem (rx_lv_mem.mpr ⟨i, .int x, hx, rfl⟩ : (i, Value.int x) ∈ rx_lv G.2.2.1 lv)
  exact lv_iinc C.1 C.2.1 hd hl hj hv hn rfl (fun ls h => k p e s m args below meth c H locs ls C (he ▸ rx_st1 (v := .int v) h ho) hP hS)
theorem r_iadd {x y : Int32} (hd : decode q.2.1 pc = .ok (.iadd, 1)) (k : Rn Ω G d q (pc + 1) lv (.int (x + y) :: st) hp Q) : Rn Ω G d q pc lv (.int y :: .int x :: st) hp Q :=
  fun p e s m args below meth c H locs ls C hl hP hS => lv_iadd C.1 C.2.1 hd (k p e s m args below meth c H locs ls C hl hP hS)
theorem r_isub {x y : Int32} (hd : decode q.2.1 pc = .ok (.isub, 1)) (k : Rn Ω G d q (pc + 1) lv (.int (x - y) :: st) hp Q) : Rn Ω G d q pc lv (.int y :: .int x :: st) hp Q :=
  fun p e s m args below meth c H locs ls C hl hP hS => lv_isub C.1 C.2.1 hd (k p e s m args below meth c H locs ls C hl hP hS)
theorem r_imul {x y : Int32} (hd : decode q.2.1 pc = .ok (.imul, 1)) (k : Rn Ω G d q (pc + 1) lv (.int (x * y) :: st) hp Q) : Rn Ω G d q pc lv (.int y :: .int x :: st) hp Q :=
  fun p e s m args below meth c H locs ls C hl hP hS => lv_imul C.1 C.2.1 hd (k p e s m args below meth c H locs ls C hl hP hS)
theorem r_iand {x y : Int32} (hd : decode q.2.1 pc = .ok (.iand, 1)) (k : Rn Ω G d q (pc + 1) lv (.int (x &&& y) :: st) hp Q) : Rn Ω G d q pc lv (.int y :: .int x :: st) hp Q :=
  fun p e s m args below meth c H locs ls C hl hP hS => lv_iand C.1 C.2.1 hd (k p e s m args below meth c H locs ls C hl hP hS)
theorem r_ior {x y : Int32} (hd : decode q.2.1 pc = .ok (.ior, 1)) (k : Rn Ω G d q (pc + 1) lv (.int (x ||| y) :: st) hp Q) : Rn Ω G d q pc lv (.int y :: .int x :: st) hp Q :=
  fun p e s m args below meth c H locs ls C hl hP hS => lv_ior C.1 C.2.1 hd (k p e s m args below meth c H locs ls C hl hP hS)
theorem r_ixor {x y : Int32} (hd : decode q.2.1 pc = .ok (.ixor, 1)) (k : Rn Ω G d q (pc + 1) lv (.int (x ^^^ y) :: st) hp Q) : Rn Ω G d q pc lv (.int y :: .int x :: st) hp Q :=
  fun p e s m args below meth c H locs ls C hl hP hS => lv_ixor C.1 C.2.1 hd (k p e s m args below meth c H locs ls C hl hP hS)
theorem r_ishl {x y : Int32} (hd : decode q.2.1 pc = .ok (.ishl, 1)) (k : Rn Ω G d q (pc + 1) lv (.int (x <<< (y &&& 31)) :: st) hp Q) : Rn Ω G d q pc lv (.int y :: .int x :: st) hp Q :=
  fun p e s m args below meth c H locs ls C hl hP hS => lv_ishl C.1 C.2.1 hd (k p e s m args below meth c H locs ls C hl hP hS)
theorem r_ishr {x y : Int32} (hd : decode q.2.1 pc = .ok (.ishr, 1)) (k : Rn Ω G d q (pc + 1) lv (.int (x >>> (y &&& 31)) :: st) hp Q) : Rn Ω G d q pc lv (.int y :: .int x :: st) hp Q :=
  fun p e s m args below meth c H locs ls C hl hP hS => lv_ishr C.1 C.2.1 hd (k p e s m args below meth c H locs ls C hl hP hS)
theorem r_idiv {x y : Int32} (hd : decode q.2.1 pc = .ok (.idiv, 1)) (hne : ¬ y = 0) (k : Rn Ω G d q (pc + 1) lv (.int (x / y) :: st) hp Q) : Rn Ω G d q pc lv (.int y :: .int x :: st) hp Q :=
  fun p e s m args below meth c H locs ls C hl hP hS => lv_idiv C.1 C.2.1 hd hne (k p e s m args below meth c H locs ls C hl hP hS)
theorem r_irem {x y : Int32} (hd : decode q.2.1 pc = .ok (.irem, 1)) (hne : ¬ y = 0) (k : Rn Ω G d q (pc + 1) lv (.int (x - x / y * y) :: st) hp Q) : Rn Ω G d q pc lv (.int y :: .int x :: st) hp Q :=
  fun p e s m args below meth c H locs ls C hl hP hS => lv_irem C.1 C.2.1 hd hne (k p e s m args below meth c H locs ls C hl hP hS)
theorem r_ineg {x : Int32} (hd : decode q.2.1 pc = .ok (.ineg, 1)) (k : Rn Ω G d q (pc + 1) lv (.int (-x) :: st) hp Q) : Rn Ω G d q pc lv (.int x :: st) hp Q :=
  fun p e s m args below meth c H locs ls C hl hP hS => lv_ineg C.1 C.2.1 hd (k p e s m args below meth c H locs ls C hl hP hS)
theorem r_ladd {x y : Int64} (hd : decode q.2.1 pc = .ok (.ladd, 1)) (k : Rn Ω G d q (pc + 1) lv (.long (x + y) :: st) hp Q) : Rn Ω G d q pc lv (.long y :: .long x :: st) hp Q :=
  fun p e s m args below meth c H locs ls C hl hP hS => lv_ladd C.1 C.2.1 hd (k p e s m args below meth c H locs ls C hl hP hS)
theorem r_lsub {x y : Int64} (hd : decode q.2.1 pc = .ok (.lsub, 1)) (k : Rn Ω G d q (pc + 1) lv (.long (x - y) :: st) hp Q) : Rn Ω G d q pc lv (.long y :: .long x :: st) hp Q :=
  fun p e s m args below meth c H locs ls C hl hP hS => lv_lsub C.1 C.2.1 hd (k p e s m args below meth c H locs ls C hl hP hS)
theorem r_lmul {x y : Int64} (hd : decode q.2.1 pc = .ok (.lmul, 1)) (k : Rn Ω G d q (pc + 1) lv (.long (x * y) :: st) hp Q) : Rn Ω G d q pc lv (.long y :: .long x :: st) hp Q :=
  fun p e s m args below meth c H locs ls C hl hP hS => lv_lmul C.1 C.2.1 hd (k p e s m args below meth c H locs ls C hl hP hS)
theorem r_land {x y : Int64} (hd : decode q.2.1 pc = .ok (.land, 1)) (k : Rn Ω G d q (pc + 1) lv (.long (x &&& y) :: st) hp Q) : Rn Ω G d q pc lv (.long y :: .long x :: st) hp Q :=
  fun p e s m args below meth c H locs ls C hl hP hS => lv_land C.1 C.2.1 hd (k p e s m args below meth c H locs ls C hl hP hS)
theorem r_lor {x y : Int64} (hd : decode q.2.1 pc = .ok (.lor, 1)) (k : Rn Ω G d q (pc + 1) lv (.long (x ||| y) :: st) hp Q) : Rn Ω G d q pc lv (.long y :: .long x :: st) hp Q :=
  fun p e s m args below meth c H locs ls C hl hP hS => lv_lor C.1 C.2.1 hd (k p e s m args below meth c H locs ls C hl hP hS)
theorem r_ldiv {x y : Int64} (hd : decode q.2.1 pc = .ok (.ldiv, 1)) (hne : ¬ y = 0) (k : Rn Ω G d q (pc + 1) lv (.long (x / y) :: st) hp Q) : Rn Ω G d q pc lv (.long y :: .long x :: st) hp Q :=
  fun p e s m args below meth c H locs ls C hl hP hS => lv_ldiv C.1 C.2.1 hd hne (k p e s m args below meth c H locs ls C hl hP hS)
theorem r_lrem {x y : Int64} (hd : decode q.2.1 pc = .ok (.lrem, 1)) (hne : ¬ y = 0) (k : Rn Ω G d q (pc + 1) lv (.long (x - x / y * y) :: st) hp Q) : Rn Ω G d q pc lv (.long y :: .long x :: st) hp Q :=
  fun p e s m args below meth c H locs ls C hl hP hS => lv_lrem C.1 C.2.1 hd hne (k p e s m args below meth c H locs ls C hl hP hS)
theorem r_i2l {x : Int32} (hd : decode q.2.1 pc = .ok (.i2l, 1)) (k : Rn Ω G d q (pc + 1) lv (.long x.toInt64 :: st) hp Q) : Rn Ω G d q pc lv (.int x :: st) hp Q :=
  fun p e s m args below meth c H locs ls C hl hP hS => lv_i2l C.1 C.2.1 hd rfl (k p e s m args below meth c H locs ls C hl hP hS)
theorem r_l2i {x : Int64} (hd : decode q.2.1 pc = .ok (.l2i, 1)) (k : Rn Ω G d q (pc + 1) lv (.int x.toInt32 :: st) hp Q) : Rn Ω G d q pc lv (.long x :: st) hp Q :=
  fun p e s m args below meth c H locs ls C hl hP hS => lv_l2i C.1 C.2.1 hd rfl (k p e s m args below meth c H locs ls C hl hP hS)
theorem r_i2c {x : Int32} (hd : decode q.2.1 pc = .ok (.i2c, 1)) (k : Rn Ω G d q (pc + 1) lv (.int (x.toUInt32 % 65536).toInt32 :: st) hp Q) : Rn Ω G d q pc lv (.int x :: st) hp Q :=
  fun p e s m args below meth c H locs ls C hl hP hS => lv_i2c C.1 C.2.1 hd rfl (k p e s m args below meth c H locs ls C hl hP hS)
theorem r_i2b {x : Int32} (hd : decode q.2.1 pc = .ok (.i2b, 1)) (k : Rn Ω G d q (pc + 1) lv (.int x.toInt8.toInt32 :: st) hp Q) : Rn Ω G d q pc lv (.int x :: st) hp Q :=
  fun p e s m args below meth c H locs ls C hl hP hS => lv_i2b C.1 C.2.1 hd rfl (k p e s m args below meth c H locs ls C hl hP hS)
theorem r_iushr {x y : Int32} (hd : decode q.2.1 pc = .ok (.iushr, 1)) (k : Rn Ω G d q (pc + 1) lv (.int (x.toUInt32 >>> (y.toUInt32 &&& Int32.toUInt32 31)).toInt32 :: st) hp Q) : Rn Ω G d q pc lv (.int y :: .int x :: st) hp Q :=
  fun p e s m args below meth c H locs ls C hl hP hS => lv_iushr C.1 C.2.1 hd rfl (k p e s m args below meth c H locs ls C hl hP hS)
theorem r_lushr {x : Int64} {y : Int32} (hd : decode q.2.1 pc = .ok (.lushr, 1)) (k : Rn Ω G d q (pc + 1) lv (.long (x.toUInt64 >>> (y.toInt64.toUInt64 &&& Int64.toUInt64 63)).toInt64 :: st) hp Q) : Rn Ω G d q pc lv (.int y :: .long x :: st) hp Q :=
  fun p e s m args below meth c H locs ls C hl hP hS => lv_lushr C.1 C.2.1 hd rfl (k p e s m args below meth c H locs ls C hl hP hS)
theorem r_dupi {x : Int32} (hd : decode q.2.1 pc = .ok (.dup, 1)) (k : Rn Ω G d q (pc + 1) lv (.int x :: .int x :: st) hp Q) : Rn Ω G d q pc lv (.int x :: st) hp Q :=
  fun p e s m args below meth c H locs ls C hl hP hS => lv_dup C.1 C.2.1 hd rfl (k p e s m args below meth c H locs ls C hl hP hS)
theorem r_dupr {x : Nat} (hd : decode q.2.1 pc = .ok (.dup, 1)) (k : Rn Ω G d q (pc + 1) lv (.ref x :: .ref x :: st) hp Q) : Rn Ω G d q pc lv (.ref x :: st) hp Q :=
  fun p e s m args below meth c H locs ls C hl hP hS => lv_dup C.1 C.2.1 hd rfl (k p e s m args below meth c H locs ls C hl hP hS)
theorem r_dup2 {x : Int32} {r : Nat} (hd : decode q.2.1 pc = .ok (.dup2, 1)) (k : Rn Ω G d q (pc + 1) lv (.int x :: .ref r :: .int x :: .ref r :: st) hp Q) : Rn Ω G d q pc lv (.int x :: .ref r :: st) hp Q :=
  fun p e s m args below meth c H locs ls C hl hP hS => lv_dup2_11 C.1 C.2.1 hd rfl rfl (k p e s m args below meth c H locs ls C hl hP hS)
theorem r_popi {x : Int32} (hd : decode q.2.1 pc = .ok (.pop, 1)) (k : Rn Ω G d q (pc + 1) lv st hp Q) : Rn Ω G d q pc lv (.int x :: st) hp Q :=
  fun p e s m args below meth c H locs ls C hl hP hS => lv_pop C.1 C.2.1 hd rfl (k p e s m args below meth c H locs ls C hl hP hS)
theorem r_if_eq {x : Int32} {off : Int} {tgt : Nat} (hd : decode q.2.1 pc = .ok (.ifCond .eq off, 3)) (ht : (pc : Int) + off = (tgt : Int)) (kt : (x = 0) → Rn Ω G d q tgt lv st hp Q) (kf : ¬ (x = 0) → Rn Ω G d q (pc + 3) lv st hp Q) : Rn Ω G d q pc lv (.int x :: st) hp Q :=
  fun p e s m args below meth c H locs ls C hl hP hS => lv_if_eq C.1 C.2.1 hd ht (fun h => kt h p e s m args below meth c H locs ls C hl hP hS) (fun h => kf h p e s m args below meth c H locs ls C hl hP hS)
theorem r_if_ne {x : Int32} {off : Int} {tgt : Nat} (hd : decode q.2.1 pc = .ok (.ifCond .ne off, 3)) (ht : (pc : Int) + off = (tgt : Int)) (kt : (¬ x = 0) → Rn Ω G d q tgt lv st hp Q) (kf : (x = 0) → Rn Ω G d q (pc + 3) lv st hp Q) : Rn Ω G d q pc lv (.int x :: st) hp Q :=
  fun p e s m args below meth c H locs ls C hl hP hS => lv_if_ne C.1 C.2.1 hd ht (fun h => kt h p e s m args below meth c H locs ls C hl hP hS) (fun h => kf h p e s m args below meth c H locs ls C hl hP hS)
theorem r_if_lt {x : Int32} {off : Int} {tgt : Nat} (hd : decode q.2.1 pc = .ok (.ifCond .lt off, 3)) (ht : (pc : Int) + off = (tgt : Int)) (kt : (x < 0) → Rn Ω G d q tgt lv st hp Q) (kf : ¬ (x < 0) → Rn Ω G d q (pc + 3) lv st hp Q) : Rn Ω G d q pc lv (.int x :: st) hp Q :=
  fun p e s m args below meth c H locs ls C hl hP hS => lv_if_lt C.1 C.2.1 hd ht (fun h => kt h p e s m args below meth c H locs ls C hl hP hS) (fun h => kf h p e s m args below meth c H locs ls C hl hP hS)
theorem r_if_ge {x : Int32} {off : Int} {tgt : Nat} (hd : decode q.2.1 pc = .ok (.ifCond .ge off, 3)) (ht : (pc : Int) + off = (tgt : Int)) (kt : (0 ≤ x) → Rn Ω G d q tgt lv st hp Q) (kf : ¬ (0 ≤ x) → Rn Ω G d q (pc + 3) lv st hp Q) : Rn Ω G d q pc lv (.int x :: st) hp Q :=
  fun p e s m args below meth c H locs ls C hl hP hS => lv_if_ge C.1 C.2.1 hd ht (fun h => kt h p e s m args below meth c H locs ls C hl hP hS) (fun h => kf h p e s m args below meth c H locs ls C hl hP hS)
theorem r_if_gt {x : Int32} {off : Int} {tgt : Nat} (hd : decode q.2.1 pc = .ok (.ifCond .gt off, 3)) (ht : (pc : Int) + off = (tgt : Int)) (kt : (0 < x) → Rn Ω G d q tgt lv st hp Q) (kf : ¬ (0 < x) → Rn Ω G d q (pc + 3) lv st hp Q) : Rn Ω G d q pc lv (.int x :: st) hp Q :=
  fun p e s m args below meth c H locs ls C hl hP hS => lv_if_gt C.1 C.2.1 hd ht (fun h => kt h p e s m args below meth c H locs ls C hl hP hS) (fun h => kf h p e s m args below meth c H locs ls C hl hP hS)
theorem r_if_le {x : Int32} {off : Int} {tgt : Nat} (hd : decode q.2.1 pc = .ok (.ifCond .le off, 3)) (ht : (pc : Int) + off = (tgt : Int)) (kt : (x ≤ 0) → Rn Ω G d q tgt lv st hp Q) (kf : ¬ (x ≤ 0) → Rn Ω G d q (pc + 3) lv st hp Q) : Rn Ω G d q pc lv (.int x :: st) hp Q :=
  fun p e s m args below meth c H locs ls C hl hP hS => lv_if_le C.1 C.2.1 hd ht (fun h => kt h p e s m args below meth c H locs ls C hl hP hS) (fun h => kf h p e s m args below meth c H locs ls C hl hP hS)
theorem r_icmp_eq {x y : Int32} {off : Int} {tgt : Nat} (hd : decode q.2.1 pc = .ok (.if_icmp .eq off, 3)) (ht : (pc : Int) + off = (tgt : Int)) (kt : (x = y) → Rn Ω G d q tgt lv st hp Q) (kf : ¬ (x = y) → Rn Ω G d q (pc + 3) lv st hp Q) : Rn Ω G d q pc lv (.int y :: .int x :: st) hp Q :=
  fun p e s m args below meth c H locs ls C hl hP hS => lv_icmp_eq C.1 C.2.1 hd ht (fun h => kt h p e s m args below meth c H locs ls C hl hP hS) (fun h => kf h p e s m args below meth c H locs ls C hl hP hS)
theorem r_icmp_ne {x y : Int32} {off : Int} {tgt : Nat} (hd : decode q.2.1 pc = .ok (.if_icmp .ne off, 3)) (ht : (pc : Int) + off = (tgt : Int)) (kt : (¬ x = y) → Rn Ω G d q tgt lv st hp Q) (kf : (x = y) → Rn Ω G d q (pc + 3) lv st hp Q) : Rn Ω G d q pc lv (.int y :: .int x :: st) hp Q :=
  fun p e s m args below meth c H locs ls C hl hP hS => lv_icmp_ne C.1 C.2.1 hd ht (fun h => kt h p e s m args below meth c H locs ls C hl hP hS) (fun h => kf h p e s m args below meth c H locs ls C hl hP hS)
theorem r_icmp_lt {x y : Int32} {off : Int} {tgt : Nat} (hd : decode q.2.1 pc = .ok (.if_icmp .lt off, 3)) (ht : (pc : Int) + off = (tgt : Int)) (kt : (x < y) → Rn Ω G d q tgt lv st hp Q) (kf : ¬ (x < y) → Rn Ω G d q (pc + 3) lv st hp Q) : Rn Ω G d q pc lv (.int y :: .int x :: st) hp Q :=
  fun p e s m args below meth c H locs ls C hl hP hS => lv_icmp_lt C.1 C.2.1 hd ht (fun h => kt h p e s m args below meth c H locs ls C hl hP hS) (fun h => kf h p e s m args below meth c H locs ls C hl hP hS)
theorem r_icmp_ge {x y : Int32} {off : Int} {tgt : Nat} (hd : decode q.2.1 pc = .ok (.if_icmp .ge off, 3)) (ht : (pc : Int) + off = (tgt : Int)) (kt : (y ≤ x) → Rn Ω G d q tgt lv st hp Q) (kf : ¬ (y ≤ x) → Rn Ω G d q (pc + 3) lv st hp Q) : Rn Ω G d q pc lv (.int y :: .int x :: st) hp Q :=
  fun p e s m args below meth c H locs ls C hl hP hS => lv_icmp_ge C.1 C.2.1 hd ht (fun h => kt h p e s m args below meth c H locs ls C hl hP hS) (fun h => kf h p e s m args below meth c H locs ls C hl hP hS)
theorem r_icmp_gt {x y : Int32} {off : Int} {tgt : Nat} (hd : decode q.2.1 pc = .ok (.if_icmp .gt off, 3)) (ht : (pc : Int) + off = (tgt : Int)) (kt : (y < x) → Rn Ω G d q tgt lv st hp Q) (kf : ¬ (y < x) → Rn Ω G d q (pc + 3) lv st hp Q) : Rn Ω G d q pc lv (.int y :: .int x :: st) hp Q :=
  fun p e s m args below meth c H locs ls C hl hP hS => lv_icmp_gt C.1 C.2.1 hd ht (fun h => kt h p e s m args below meth c H locs ls C hl hP hS) (fun h => kf h p e s m args below meth c H locs ls C hl hP hS)
theorem r_icmp_le {x y : Int32} {off : Int} {tgt : Nat} (hd : decode q.2.1 pc = .ok (.if_icmp .le off, 3)) (ht : (pc : Int) + off = (tgt : Int)) (kt : (x ≤ y) → Rn Ω G d q tgt lv st hp Q) (kf : ¬ (x ≤ y) → Rn Ω G d q (pc + 3) lv st hp Q) : Rn Ω G d q pc lv (.int y :: .int x :: st) hp Q :=
  fun p e s m args below meth c H locs ls C hl hP hS => lv_icmp_le C.1 C.2.1 hd ht (fun h => kt h p e s m args below meth c H locs ls C hl hP hS) (fun h => kf h p e s m args below meth c H locs ls C hl hP hS)
theorem r_goto {off : Int} {tgt : Nat} (hd : decode q.2.1 pc = .ok (.goto off, 3)) (ht : (pc : Int) + off = (tgt : Int)) (k : Rn Ω G d q tgt lv st hp Q) : Rn Ω G d q pc lv st hp Q :=
  fun p e s m args below meth c H locs ls C hl hP hS => lv_goto C.1 C.2.1 hd ht (k p e s m args below meth c H locs ls C hl hP hS)
theorem r_ifnull {x : Nat} {off : Int} (hd : decode q.2.1 pc = .ok (.ifnull off, 3)) (k : Rn Ω G d q (pc + 3) lv st hp Q) : Rn Ω G d q pc lv (.ref x :: st) hp Q :=
  fun p e s m args below meth c H locs ls C hl hP hS => lv_ifnull C.1 C.2.1 hd (k p e s m args below meth c H locs ls C hl hP hS)
theorem r_ifnonnull {x : Nat} {off : Int} {tgt : Nat} (hd : decode q.2.1 pc = .ok (.ifnonnull off, 3)) (ht : (pc : Int) + off = (tgt : Int)) (k : Rn Ω G d q tgt lv st hp Q) : Rn Ω G d q pc lv (.ref x :: st) hp Q :=
  fun p e s m args below meth c H locs ls C hl hP hS => lv_ifnonnull C.1 C.2.1 hd ht (k p e s m args below meth c H locs ls C hl hP hS)
theorem r_tabIn {dflt lo hi : Int} {offs : Array Int} {len : Nat} {x : Int32} {off : Int} {tgt : Nat} (hd : decode q.2.1 pc = .ok (.tableswitch dflt lo hi offs, len)) (h1 : ¬ x.toInt < lo) (h2 : ¬ hi < x.toInt) (ho : offs[(x.toInt - lo).toNat]? = some off) (ht : (pc : Int) + off = (tgt : Int)) (k : Rn Ω G d q tgt lv st hp Q) : Rn Ω G d q pc lv (.int x :: st) hp Q :=
  fun p e s m args below meth c H locs ls C hl hP hS => lv_tableIn C.1 C.2.1 hd h1 h2 ho ht (k p e s m args below meth c H locs ls C hl hP hS)
theorem r_tabOut {dflt lo hi : Int} {offs : Array Int} {len : Nat} {x : Int32} {tgt : Nat} (hd : decode q.2.1 pc = .ok (.tableswitch dflt lo hi offs, len)) (h : x.toInt < lo ∨ hi < x.toInt) (ht : (pc : Int) + dflt = (tgt : Int)) (k : Rn Ω G d q tgt lv st hp Q) : Rn Ω G d q pc lv (.int x :: st) hp Q :=
  fun p e s m args below meth c H locs ls C hl hP hS => lv_tableOut C.1 C.2.1 hd h ht (k p e s m args below meth c H locs ls C hl hP hS)
theorem r_ldc {i : Nat} {v : Int32} (hd : decode q.2.1 pc = .ok (.ldc i, 2)) (hw : Cond.constant q.1.cls i v ∈ rx_gw) (k : Rn Ω G d q (pc + 2) lv (.int v :: st) hp Q) : Rn Ω G d q pc lv st hp Q :=
  fun p e s m args below meth c H locs ls C hl hP hS => lv_ldc C.1 C.2.1 C.2.2.2.2.1 (C.2.2.2.2.2.1 _ hw) hd (k p e s m args below meth c H locs ls C hl hP hS)
theorem r_ldcw {i : Nat} {v : Int32} (hd : decode q.2.1 pc = .ok (.ldc_w i, 3)) (hw : Cond.constant q.1.cls i v ∈ rx_gw) (k : Rn Ω G d q (pc + 3) lv (.int v :: st) hp Q) : Rn Ω G d q pc lv st hp Q :=
  fun p e s m args below meth c H locs ls C hl hP hS => lv_ldcw C.1 C.2.1 C.2.2.2.2.1 (C.2.2.2.2.2.1 _ hw) hd (k p e s m args below meth c H locs ls C hl hP hS)
theorem r_ldc2 {i : Nat} {v : Int64} (hd : decode q.2.1 pc = .ok (.ldc2_w i, 3)) (hw : Cond.constantLong q.1.cls i v ∈ rx_gw) (k : Rn Ω G d q (pc + 3) lv (.long v :: st) hp Q) : Rn Ω G d q pc lv st hp Q :=
  fun p e s m args below meth c H locs ls C hl hP hS => lv_ldc2 C.1 C.2.1 C.2.2.2.2.1 (C.2.2.2.2.2.1 _ hw) hd (k p e s m args below meth c H locs ls C hl hP hS)
theorem r_lshl {x : Int64} {y : Int32} (hd : decode q.2.1 pc = .ok (.lshl, 1)) (k : Rn Ω G d q (pc + 1) lv (.long (x <<< (y.toInt64 &&& 63)) :: st) hp Q) : Rn Ω G d q pc lv (.int y :: .long x :: st) hp Q :=
  fun p e s m args below meth c H locs ls C hl hP hS => lv_lshl C.1 C.2.1 hd rfl (k p e s m args below meth c H locs ls C hl hP hS)
theorem r_lcmp {x y : Int64} (hd : decode q.2.1 pc = .ok (.lcmp, 1)) (k : Rn Ω G d q (pc + 1) lv (.int (lg_cmp x y) :: st) hp Q) : Rn Ω G d q pc lv (.long y :: .long x :: st) hp Q :=
  fun p e s m args below meth c H locs ls C hl hP hS => W.lcmp C.1 C.2.1 hd (k p e s m args below meth c H locs ls C hl hP hS)
end RXR

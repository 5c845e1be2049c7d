section RXN
variable {Ω : rx_Om} {G : rx_Gh} {d : Nat} {q : rx_Mi} {pc : Nat} {lv : List (Option Value)} {st : List Value} {hp : rx_Hp} {Q : rx_Po}
theorem r_null (hd : decode q.2.1 pc = .ok (.aconst_null, 1)) (k : Rn Ω G d q (pc + 1) lv (.null :: st) hp Q) : Rn Ω G d q pc lv st hp Q :=
  fun p e s m args below meth c H locs ls C hl hP hS => lv_null C.1 C.2.1 hd (k p e s m args below meth c H locs ls C hl hP hS)
theorem r_ifnullN {off : Int} {tgt : Nat} (hd : decode q.2.1 pc = .ok (.ifnull off, 3)) (ht : (pc : Int) + off = (tgt : Int)) (k : Rn Ω G d q tgt lv st hp Q) : Rn Ω G d q pc lv (.null :: st) hp Q :=
  fun p e s m args below meth c H locs ls C hl hP hS => lv_ifnullN C.1 C.2.1 hd ht (k p e s m args below meth c H locs ls C hl hP hS)
theorem r_ifnonnullN {off : Int} (hd : decode q.2.1 pc = .ok (.ifnonnull off, 3)) (k : Rn Ω G d q (pc + 3) lv st hp Q) : Rn Ω G d q pc lv (.null :: st) hp Q :=
  fun p e s m args below meth c H locs ls C hl hP hS => lv_ifnonnullN C.1 C.2.1 hd (k p e s m args below meth c H locs ls C hl hP hS)
theorem r_aload_nN {f : Fin 4} {i : Nat} (hd : decode q.2.1 pc = .ok (.aload_n f, 1)) (hi : (f : Nat) = i) (hx : lv[i]? = some (some .null)) (k : Rn Ω G d q (pc + 1) lv (.null :: st) hp Q) : Rn Ω G d q pc lv st hp Q :=
  fun p e s m args below meth c H locs ls C hl hP hS => lv_aload_nN C.1 C.2.1 hd hi (rx_ld hl hx) (k p e s m args below meth c H locs ls C hl hP hS)
theorem r_aloadN {i : Nat} (hd : decode q.2.1 pc = .ok (.aload i, 2)) (hx : lv[i]? = some (some .null)) (k : Rn Ω G d q (pc + 2) lv (.null :: st) hp Q) : Rn Ω G d q pc lv st hp Q :=
  fun p e s m args below meth c H locs ls C hl hP hS => lv_aloadN C.1 C.2.1 hd (rx_ld hl hx) (k p e s m args below meth c H locs ls C hl hP hS)
theorem r_astore_nN {f : Fin 4} {i : Nat} (hd : decode q.2.1 pc = .ok (.astore_n f, 1)) (hi : (f : Nat) = i) (hn : i < q.2.2.1) (ho : rx_okS lv i = true) {lz : List (Option Value)} (he : lv.set i (some .null) = lz) (k : Rn Ω G d q (pc + 1) lz st hp Q) : Rn Ω G d q pc lv (.null :: st) hp Q :=
  fun p e s m args below meth c H locs ls C hl hP hS => lv_astore_nN C.1 C.2.1 hd hi hl hn rfl (fun ls h => k p e s m args below meth c H locs ls C (he ▸ rx_st1 (v := .null) h ho) hP hS)
theorem r_astoreN {i : Nat} (hd : decode q.2.1 pc = .ok (.astore i, 2)) (hn : i < q.2.2.1) (ho : rx_okS lv i = true) {lz : List (Option Value)} (he : lv.set i (some .null) = lz) (k : Rn Ω G d q (pc + 2) lz st hp Q) : Rn Ω G d q pc lv (.null :: st) hp Q :=
  fun p e s m args below meth c H locs ls C hl hP hS => lv_astoreN C.1 C.2.1 hd hl hn rfl (fun ls h => k p e s m args below meth c H locs ls C (he ▸ rx_st1 (v := .null) h ho) hP hS)
end RXN

section RXB
variable {Ω : rx_Om} {G : rx_Gh} {d : Nat} {q : rx_Mi} {pc : Nat} {lv : List (Option Value)} {hp : rx_Hp} {Q : rx_Po}
theorem r_bret {v : Int32} (hd : decode q.2.1 pc = .ok (.ireturn, 1)) (hr : q.2.2.2 = some .byte) (hn : narrow .byte (.int v) = .int v) (h : Q (some (.int v)) hp) : Rn Ω G d q pc lv [.int v] hp Q := by
  intro p e s m args below meth c H locs ls C hl hP hS
  exact W.zret C.1 C.2.1 (C.2.2.1.trans hr) hn (fun t ht hW => ⟨⟨some (.int v), hp, rfl, h, by rw [ht]; exact hP⟩, hS.F ht⟩) hS.2.2 hd C.2.2.2.2.2.2.1
theorem rB_ret (hd : decode q.2.1 pc = .ok (.ireturn, 1)) (hr : q.2.2.2 = some .byte) {v : Int32} {F : Int32 → rx_Hp → Prop} (hn : narrow .byte (.int v) = .int v) (h : F v hp) : Rn Ω G d q pc lv [.int v] hp (rI F) := r_bret hd hr hn ⟨v, rfl, h⟩
end RXB

/-! count, both sides; body (model) -/
def A_count (nb w h g t nl n np na : Nat) (hd : Int) (k : Int32) : Int32 := if k = 0 then zI nb else if k = 1 then zI w else if k = 2 then zI h else if k = 3 then zI g else if k = 4 then zI t else if k = 5 then zI nl else if k = 6 then zI n else if k = 7 then zI hd else if k = 8 then zI np else if k = 9 then zI na else -100000000
section CNT
variable {nb w h g t nl n np na nx : Nat} {hd : Int} {X Y A tb pe pf : Nat → Nat} {R : Nat → Nat → Nat} {hc hm : rx_Hp}
theorem a_count_c {G : rx_Gh} {F : Int32 → rx_Hp → Prop} (T : TC n tb hc) (H : HC nb w h g t X Y A hc) (L : LC nl hd hc) (P : PC np pe pf hc) (a : AC nb na nx R hc) (k : Int32) (K : F (A_count nb w h g t nl n np na hd k) hc) : Ev wC G 1 q_GR_count [.ref 0, .int k] hc (rI F) := by
  refine w_GR_count k ?_
  rw [H.1.1, H.1.2.1, H.1.2.2.1, H.1.2.2.2.1, H.1.2.2.2.2, L.1, L.2, T.1, P.1, a.2.1]
  unfold A_count at K
  refine ⟨?_, ?_, ?_, ?_, ?_, ?_, ?_, ?_, ?_, ?_, ?_⟩
  iterate 10 (rintro rfl; exact K)
  intro c0 c1 c2 c3 c4 c5 c6 c7 c8 c9
  rw [if_neg c0, if_neg c1, if_neg c2, if_neg c3, if_neg c4, if_neg c5, if_neg c6, if_neg c7, if_neg c8, if_neg c9] at K
  exact K
theorem a_count_m {G : rx_Gh} {F : Int32 → rx_Hp → Prop} (T : TM n tb hm) (H : HM nb w h g t X Y A hm) (L : LM nl hd hm) (P : PM np pe pf hm) (a : AM nb na R hm) (k : Int32) (K : F (A_count nb w h g t nl n np na hd k) hm) : Ev wM G 1 q_M_count [.ref 0, .int k] hm (rI F) := by
  refine w_M_count k ?_
  rw [H.1.1, H.1.2.1, H.1.2.2.1, H.1.2.2.2.1, H.1.2.2.2.2, L.1, L.2, T.1, P.1, a.1]
  unfold A_count at K
  refine ⟨?_, ?_, ?_, ?_, ?_, ?_, ?_, ?_, ?_, ?_, ?_⟩
  iterate 10 (rintro rfl; exact K)
  intro c0 c1 c2 c3 c4 c5 c6 c7 c8 c9
  rw [if_neg c0, if_neg c1, if_neg c2, if_neg c3, if_neg c4, if_neg c5, if_neg c6, if_neg c7, if_neg c8, if_neg c9] at K
  exact K
end CNT

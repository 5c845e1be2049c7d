/-! the law's loop -/
theorem sw_and (x : Int32) : ∃ j : Nat, j < 32 ∧ x &&& 31 = Int32.ofNat j := by
  refine ⟨(x &&& 31).toBitVec.toNat, ?_, ?_⟩
  · have h : (x &&& 31).toBitVec = x.toBitVec &&& 31#32 := rfl
    rw [h, BitVec.toNat_and]
    exact Nat.lt_of_le_of_lt Nat.and_le_right (by decide)
  · apply Int32.toBitVec_inj.mp
    rw [show (Int32.ofNat (x &&& 31).toBitVec.toNat).toBitVec = BitVec.ofNat 32 (x &&& 31).toBitVec.toNat from rfl, BitVec.ofNat_toNat, BitVec.setWidth_eq]
section LWE
variable {Γ : lw_Γ} {n pc : Nat} {ex : List (Nat × Value)} {st : List Value} {hc hm : rx_Hp} {f : Nat → Int64} {ce sl : Nat} {S : Gs}
/-- an end of the loop's round: i += 6, and back -/
theorem l_next (hL : n + 6 ≤ 4000) (k : Lw Γ (n + 6) 23 [] [] hc hm f ce sl) : Lw Γ n 1563 ex [] hc hm f ce sl := by
  intro p l e s m below meth c H locs ls C hl hH
  have hl0 : lv_has ls 7 (lw_l Γ n) := ⟨hl.1, hl.2.1, fun q hq => hl.2.2 q (List.mem_append_right _ hq)⟩
  refine lv_iinc (k := 4) (v := zI ((n + 6 : Nat) : Int)) C.1.1.1 C.1.1.2.1 dL_law_1563 hl0 rfl ?_ (by decide) rfl (fun ls' h' => ?_)
  · show zI (n : Int) + zI 6 = _
    rw [zI_add, Int.natCast_add]
    rfl
  · refine lv_goto (tgt := 23) C.1.1.1 C.1.1.2.1 dL_law_1566 (by decide) ?_
    refine k p l e s m below meth c H locs ls' C ⟨h'.1, h'.2.1, fun q hq => h'.2.2 q ?_⟩ hH
    have hq' : q ∈ lw_l Γ (n + 6) := hq
    unfold lw_l at hq'
    simp only [List.mem_cons, List.not_mem_nil, or_false] at hq'
    rcases hq' with rfl | rfl | rfl | rfl | rfl
    · exact List.mem_of_getElem? (i := 1) rfl
    · exact List.mem_of_getElem? (i := 2) rfl
    · exact List.mem_of_getElem? (i := 3) rfl
    · exact List.mem_of_getElem? (i := 4) rfl
    · exact List.mem_of_getElem? (i := 0) rfl
theorem l_end (hcs : ce ≤ 601024 ∧ sl ≤ 7293034) : Lw Γ n 1569 [] [] hc hm f ce sl := by
  intro p l e s m below meth c H locs ls C hl hH
  refine lv_iconst (v := 1) C.1.1.1 C.1.1.2.1 dL_law_1569 (by decide) ?_
  refine va_forget (fun q hq => hH.2.2.2.2.2.2 q hq) (W.widen hcs.1 hcs.2 ?_)
  exact lw_ret C.1.1.1 C.1.1.2.1 C.1.2.1 C.1.2.2 dL_law_1570
theorem l_round (hn : n + 6 ≤ Γ.2.2.2.2.1) (ok : ROk S) (rc : RC S hc) (rm : RM S hm) (hcs : ce + 1 ≤ 601024 ∧ sl + 6 ≤ 7293034) (K : LK Γ n ce sl) : Lw Γ n 33 [] [] hc hm f ce sl := by
  intro p l e s m below meth c H locs ls C hl hH
  have h3 := C.2.1.2.2
  have hc2 : ce ≤ 601024 ∧ sl ≤ 7293034 := ⟨Nat.le_of_succ_le hcs.1, Nat.le_trans (Nat.le_add_right _ _) hcs.2⟩
  refine lv_aload_n (i := 0) C.1.1.1 C.1.1.2.1 dL_law_33 rfl (lw_at hl (i := 0) rfl) ?_
  refine lv_iload C.1.1.1 C.1.1.2.1 dL_law_34 (lw_at hl (i := 4) rfl) ?_
  refine va_sld C.1.1.1 C.1.1.2.1 C.2.1.1 C.2.1.2.1 (lw_noS C.2.1.2.1) hH.2.2.2.2 (vp_N (by omega) (by omega)) dL_law_36 ?_
  refine lv_bipush (v := 31) C.1.1.1 C.1.1.2.1 dL_law_37 (by decide) ?_
  refine lv_iand C.1.1.1 C.1.1.2.1 dL_law_39 ?_
  obtain ⟨j, hj, ej⟩ := sw_and (Γ.2.2.2.2.2 (zI (n : Int)).toNatClampNeg)
  rw [ej]
  match j, hj with
  | 0, _ => exact lv_tableIn (tgt := 184) (off := 144) C.1.1.1 C.1.1.2.1 dL_law_40 (by decide) (by decide) (by decide +kernel) (by decide) (cs_0 hn ok rc rm hc2 K p l e s m below meth c H locs ls C hl hH)
  | 1, _ => exact lv_tableIn (tgt := 257) (off := 217) C.1.1.1 C.1.1.2.1 dL_law_40 (by decide) (by decide) (by decide +kernel) (by decide) (cs_1 hn ok rc rm hc2 K p l e s m below meth c H locs ls C hl hH)
  | 2, _ => exact lv_tableIn (tgt := 282) (off := 242) C.1.1.1 C.1.1.2.1 dL_law_40 (by decide) (by decide) (by decide +kernel) (by decide) (cs_2 hn ok rc rm hc2 K p l e s m below meth c H locs ls C hl hH)
  | 3, _ => exact lv_tableIn (tgt := 307) (off := 267) C.1.1.1 C.1.1.2.1 dL_law_40 (by decide) (by decide) (by decide +kernel) (by decide) (cs_3 hn ok rc rm hc2 K p l e s m below meth c H locs ls C hl hH)
  | 4, _ => exact lv_tableIn (tgt := 332) (off := 292) C.1.1.1 C.1.1.2.1 dL_law_40 (by decide) (by decide) (by decide +kernel) (by decide) (cs_4 hn ok rc rm hcs K p l e s m below meth c H locs ls C hl hH)
  | 5, _ => exact lv_tableIn (tgt := 400) (off := 360) C.1.1.1 C.1.1.2.1 dL_law_40 (by decide) (by decide) (by decide +kernel) (by decide) (cs_5 hn ok rc rm hc2 K p l e s m below meth c H locs ls C hl hH)
  | 6, _ => exact lv_tableIn (tgt := 425) (off := 385) C.1.1.1 C.1.1.2.1 dL_law_40 (by decide) (by decide) (by decide +kernel) (by decide) (cs_6 hn ok rc rm hc2 K p l e s m below meth c H locs ls C hl hH)
  | 7, _ => exact lv_tableIn (tgt := 474) (off := 434) C.1.1.1 C.1.1.2.1 dL_law_40 (by decide) (by decide) (by decide +kernel) (by decide) (cs_7 hn ok rc rm hc2 K p l e s m below meth c H locs ls C hl hH)
  | 8, _ => exact lv_tableIn (tgt := 499) (off := 459) C.1.1.1 C.1.1.2.1 dL_law_40 (by decide) (by decide) (by decide +kernel) (by decide) (cs_8 hn ok rc rm hc2 K p l e s m below meth c H locs ls C hl hH)
  | 9, _ => exact lv_tableIn (tgt := 568) (off := 528) C.1.1.1 C.1.1.2.1 dL_law_40 (by decide) (by decide) (by decide +kernel) (by decide) (cs_9 hn ok rc rm hc2 K p l e s m below meth c H locs ls C hl hH)
  | 10, _ => exact lv_tableIn (tgt := 581) (off := 541) C.1.1.1 C.1.1.2.1 dL_law_40 (by decide) (by decide) (by decide +kernel) (by decide) (cs_10 hn ok rc rm hc2 K p l e s m below meth c H locs ls C hl hH)
  | 11, _ => exact lv_tableIn (tgt := 642) (off := 602) C.1.1.1 C.1.1.2.1 dL_law_40 (by decide) (by decide) (by decide +kernel) (by decide) (cs_11 hn ok rc rm hc2 K p l e s m below meth c H locs ls C hl hH)
  | 12, _ => exact lv_tableIn (tgt := 703) (off := 663) C.1.1.1 C.1.1.2.1 dL_law_40 (by decide) (by decide) (by decide +kernel) (by decide) (cs_12 hn ok rc rm hc2 K p l e s m below meth c H locs ls C hl hH)
  | 13, _ => exact lv_tableIn (tgt := 764) (off := 724) C.1.1.1 C.1.1.2.1 dL_law_40 (by decide) (by decide) (by decide +kernel) (by decide) (cs_13 hn ok rc rm hc2 K p l e s m below meth c H locs ls C hl hH)
  | 14, _ => exact lv_tableIn (tgt := 825) (off := 785) C.1.1.1 C.1.1.2.1 dL_law_40 (by decide) (by decide) (by decide +kernel) (by decide) (cs_14 hn ok rc rm hc2 K p l e s m below meth c H locs ls C hl hH)
  | 15, _ => exact lv_tableIn (tgt := 874) (off := 834) C.1.1.1 C.1.1.2.1 dL_law_40 (by decide) (by decide) (by decide +kernel) (by decide) (cs_15 hn ok rc rm hc2 K p l e s m below meth c H locs ls C hl hH)
  | 16, _ => exact lv_tableIn (tgt := 911) (off := 871) C.1.1.1 C.1.1.2.1 dL_law_40 (by decide) (by decide) (by decide +kernel) (by decide) (cs_16 hn ok rc rm hc2 K p l e s m below meth c H locs ls C hl hH)
  | 17, _ => exact lv_tableIn (tgt := 972) (off := 932) C.1.1.1 C.1.1.2.1 dL_law_40 (by decide) (by decide) (by decide +kernel) (by decide) (cs_17 hn ok rc rm hc2 K p l e s m below meth c H locs ls C hl hH)
  | 18, _ => exact lv_tableIn (tgt := 1021) (off := 981) C.1.1.1 C.1.1.2.1 dL_law_40 (by decide) (by decide) (by decide +kernel) (by decide) (cs_18 hn ok rc rm hc2 K p l e s m below meth c H locs ls C hl hH)
  | 19, _ => exact lv_tableIn (tgt := 1058) (off := 1018) C.1.1.1 C.1.1.2.1 dL_law_40 (by decide) (by decide) (by decide +kernel) (by decide) (cs_19 hn ok rc rm hc2 K p l e s m below meth c H locs ls C hl hH)
  | 20, _ => exact lv_tableIn (tgt := 1131) (off := 1091) C.1.1.1 C.1.1.2.1 dL_law_40 (by decide) (by decide) (by decide +kernel) (by decide) (cs_20 hn ok rc rm hc2 K p l e s m below meth c H locs ls C hl hH)
  | 21, _ => exact lv_tableIn (tgt := 1168) (off := 1128) C.1.1.1 C.1.1.2.1 dL_law_40 (by decide) (by decide) (by decide +kernel) (by decide) (cs_21 hn ok rc rm hc2 K p l e s m below meth c H locs ls C hl hH)
  | 22, _ => exact lv_tableIn (tgt := 1217) (off := 1177) C.1.1.1 C.1.1.2.1 dL_law_40 (by decide) (by decide) (by decide +kernel) (by decide) (cs_22 hn ok rc rm hc2 K p l e s m below meth c H locs ls C hl hH)
  | 23, _ => exact lv_tableIn (tgt := 1278) (off := 1238) C.1.1.1 C.1.1.2.1 dL_law_40 (by decide) (by decide) (by decide +kernel) (by decide) (cs_23 hn ok rc rm hc2 K p l e s m below meth c H locs ls C hl hH)
  | 24, _ => exact lv_tableIn (tgt := 1327) (off := 1287) C.1.1.1 C.1.1.2.1 dL_law_40 (by decide) (by decide) (by decide +kernel) (by decide) (cs_24 hn ok rc rm hc2 K p l e s m below meth c H locs ls C hl hH)
  | 25, _ => exact lv_tableIn (tgt := 1376) (off := 1336) C.1.1.1 C.1.1.2.1 dL_law_40 (by decide) (by decide) (by decide +kernel) (by decide) (cs_25 hn ok rc rm hc2 K p l e s m below meth c H locs ls C hl hH)
  | 26, _ => exact lv_tableIn (tgt := 1413) (off := 1373) C.1.1.1 C.1.1.2.1 dL_law_40 (by decide) (by decide) (by decide +kernel) (by decide) (cs_26 hn ok rc rm hc2 K p l e s m below meth c H locs ls C hl hH)
  | 27, _ => exact lv_tableIn (tgt := 1450) (off := 1410) C.1.1.1 C.1.1.2.1 dL_law_40 (by decide) (by decide) (by decide +kernel) (by decide) (cs_27 hn ok rc rm hc2 K p l e s m below meth c H locs ls C hl hH)
  | 28, _ => exact lv_tableIn (tgt := 1487) (off := 1447) C.1.1.1 C.1.1.2.1 dL_law_40 (by decide) (by decide) (by decide +kernel) (by decide) (cs_28 hn ok rc rm hc2 K p l e s m below meth c H locs ls C hl hH)
  | 29, _ => exact lv_tableIn (tgt := 1512) (off := 1472) C.1.1.1 C.1.1.2.1 dL_law_40 (by decide) (by decide) (by decide +kernel) (by decide) (cs_29 hn ok rc rm hc2 K p l e s m below meth c H locs ls C hl hH)
  | 30, _ => exact lv_tableIn (tgt := 1525) (off := 1485) C.1.1.1 C.1.1.2.1 dL_law_40 (by decide) (by decide) (by decide +kernel) (by decide) (cs_30 hn ok rc rm hc2 K p l e s m below meth c H locs ls C hl hH)
  | 31, _ => exact lv_tableIn (tgt := 1538) (off := 1498) C.1.1.1 C.1.1.2.1 dL_law_40 (by decide) (by decide) (by decide +kernel) (by decide) (cs_31 hn ok rc rm hc2 K p l e s m below meth c H locs ls C hl hH)
  | j + 32, hj => omega
theorem l_head (h9 : n ≤ 3100) (ok : ROk S) (rc : RC S hc) (rm : RM S hm) (hcs : ce + 1 ≤ 601024 ∧ sl + 6 ≤ 7293034) (K : n + 6 ≤ 3072 → LK Γ n ce sl) : Lw Γ n 23 [] [] hc hm f ce sl := by
  intro p l e s m below meth c H locs ls C hl hH
  have h3 := C.2.1.2.2
  have hc2 : ce ≤ 601024 ∧ sl ≤ 7293034 := ⟨Nat.le_of_succ_le hcs.1, Nat.le_trans (Nat.le_add_right _ _) hcs.2⟩
  refine lv_iload C.1.1.1 C.1.1.2.1 dL_law_23 (lw_at hl (i := 4) rfl) ?_
  refine lv_aload_n (i := 0) C.1.1.1 C.1.1.2.1 dL_law_25 rfl (lw_at hl (i := 0) rfl) ?_
  refine va_slen C.1.1.1 C.1.1.2.1 C.2.1.1 C.2.1.2.1 (lw_noS C.2.1.2.1) hH.2.2.2.2 dL_law_26 ?_
  refine lv_bipush (v := zI 6) C.1.1.1 C.1.1.2.1 dL_law_27 (by decide) ?_
  refine lv_isub C.1.1.1 C.1.1.2.1 dL_law_29 ?_
  rw [show Int32.ofNat Γ.2.2.2.2.1 = zI (Γ.2.2.2.2.1 : Int) from rfl, zI_sub]
  refine lv_icmp_gt (tgt := 1569) C.1.1.1 C.1.1.2.1 dL_law_30 (by decide) (fun _ => l_end hc2 p l e s m below meth c H locs ls C hl hH) (fun hn => ?_)
  have hn' : n + 6 ≤ Γ.2.2.2.2.1 := by
    rw [zI_lt ⟨by omega, by omega⟩ ⟨by omega, by omega⟩] at hn
    omega
  exact l_round hn' ok rc rm hcs (K (Nat.le_trans hn' h3)) p l e s m below meth c H locs ls C hl hH
theorem l_loop : ∀ (k n : Nat) (S : Gs) (hc hm : rx_Hp) (f : Nat → Int64) (ce sl : Nat), 3072 < n + k → n ≤ 3100 → ROk S → RC S hc → RM S hm → ce ≤ 200 + n → sl ≤ 20000 + 6 * n → Lw Γ n 23 [] [] hc hm f ce sl := by
  intro k
  induction k with
  | zero =>
    intro n S hc hm f ce sl hk h9 ok rc rm h1 h2
    exact l_head h9 ok rc rm ⟨by omega, by omega⟩ (fun h => by omega)
  | succ k ih =>
    intro n S hc hm f ce sl hk h9 ok rc rm h1 h2
    refine l_head h9 ok rc rm ⟨by omega, by omega⟩ (fun h S' hc' hm' f' ce' sl' ex ok' rc' rm' g1 g2 => ?_)
    exact l_next (by omega) (ih (n + 6) S' hc' hm' f' ce' sl' (by omega) (by omega) ok' rc' rm' (by omega) (by omega))
end LWE

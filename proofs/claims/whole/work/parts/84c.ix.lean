/-! which letter of a text a byte is -/
def ixH : List Nat := [119, 104, 103, 116, 120, 121, 97]
def ixL : List Nat := [110, 102, 116, 105, 106, 98]
def ixN (l : List Nat) (b : Nat) : Option Nat := l.findIdx? (fun x => x == b)
def ixZ : Option Nat → Int32
  | some k => zI k
  | none => -1
def ixP (l : List Int32) (c : Int32) : Nat → Nat → Int32
  | 0, _ => -1
  | m + 1, i => if l.getD i 0 = c then zI i else ixP l c m (i + 1)
theorem ixH_ok : ∀ b : Fin 256, ixP (rx_byt.getD 0 []) (zI (b : Nat)).toInt8.toInt32 7 0 = ixZ (ixN ixH (b : Nat)) := by decide +kernel
theorem ixL_ok : ∀ b : Fin 256, ixP (rx_byt.getD 1 []) (zI (b : Nat)).toInt8.toInt32 6 0 = ixZ (ixN ixL (b : Nat)) := by decide +kernel
theorem enc_ok : ∀ b : Fin 256, ¬ f_SL_canEncode (zI (b : Nat)) = 0 := by decide +kernel
theorem i2c_ok : ∀ b : Fin 256, ((zI (b : Nat)).toUInt32 % 65536).toInt32 = zI (b : Nat) := by decide +kernel
section IXC
theorem ix_l0 {G : rx_Gh} {F : Int32 → rx_Hp → Prop} {hc : rx_Hp} (c : Int32) : ∀ (m i : Nat), i + m = 7 → F (ixP (rx_byt.getD 0 []) c m i) hc → Rn wC G 1 q_SL_indexOfChar 7 [some (.ref (3000 + 0)), none, none, some (.int (zI 7)), some (.int c), some (.int (zI i))] [] hc (rI F) := by
  intro m
  induction m with
  | zero =>
    intro i hi K
    exact w_SL_indexOfChar_0_7 _ _ _ ⟨fun _ => K, fun c => absurd ((zI_le (by omega) (by omega)).mpr (by omega)) c⟩
  | succ m ih =>
    intro i hi K
    refine w_SL_indexOfChar_0_7 _ _ _ ⟨fun c => ?_, fun _ => ⟨vp_N (show i < 7 by omega) (by decide), ?_⟩⟩
    · have := (zI_le (by omega) (by omega)).mp c; omega
    · rw [zI_cN (by omega), show zI (i : Int) + 1 = zI ((i + 1 : Nat) : Int) from zI_add i 1]
      rw [ixP] at K
      refine ⟨fun q => ?_, fun q => ?_⟩
      · rw [if_pos q] at K; exact K
      · rw [if_neg q] at K; exact ih (i + 1) (by omega) K
theorem ix_l1 {G : rx_Gh} {F : Int32 → rx_Hp → Prop} {hc : rx_Hp} (c : Int32) : ∀ (m i : Nat), i + m = 6 → F (ixP (rx_byt.getD 1 []) c m i) hc → Rn wC G 1 q_SL_indexOfChar 7 [some (.ref (3000 + 1)), none, none, some (.int (zI 6)), some (.int c), some (.int (zI i))] [] hc (rI F) := by
  intro m
  induction m with
  | zero =>
    intro i hi K
    exact w_SL_indexOfChar_1_7 _ _ _ ⟨fun _ => K, fun c => absurd ((zI_le (by omega) (by omega)).mpr (by omega)) c⟩
  | succ m ih =>
    intro i hi K
    refine w_SL_indexOfChar_1_7 _ _ _ ⟨fun c => ?_, fun _ => ⟨vp_N (show i < 6 by omega) (by decide), ?_⟩⟩
    · have := (zI_le (by omega) (by omega)).mp c; omega
    · rw [zI_cN (by omega), show zI (i : Int) + 1 = zI ((i + 1 : Nat) : Int) from zI_add i 1]
      rw [ixP] at K
      refine ⟨fun q => ?_, fun q => ?_⟩
      · rw [if_pos q] at K; exact K
      · rw [if_neg q] at K; exact ih (i + 1) (by omega) K
theorem ix_h {G : rx_Gh} {F : Int32 → rx_Hp → Prop} {hc : rx_Hp} {b : Nat} (hb : b < 256) (K : F (ixZ (ixN ixH b)) hc) : Ev wC G 7 q_St_indexOf [.ref (2000 + 0), .int (zI b)] hc (rI F) := by
  refine w_St_indexOf_0 _ (w_St_indexOf1_0 _ _ (w_SL_indexOf_0 _ _ _ ⟨fun c => absurd c (enc_ok ⟨b, hb⟩), fun _ => ⟨fun _ => ?_, fun c => absurd (by decide) c⟩⟩))
  refine w_SL_indexOfChar_0 _ _ _ ?_
  have := ix_l0 (G := G) (F := F) (hc := hc) (zI b).toInt8.toInt32 7 0 rfl (by rw [ixH_ok ⟨b, hb⟩]; exact K)
  exact this
theorem ix_t {G : rx_Gh} {F : Int32 → rx_Hp → Prop} {hc : rx_Hp} {b : Nat} (hb : b < 256) (K : F (ixZ (ixN ixL b)) hc) : Ev wC G 7 q_St_indexOf [.ref (2000 + 1), .int (zI b)] hc (rI F) := by
  refine w_St_indexOf_1 _ (w_St_indexOf1_1 _ _ (w_SL_indexOf_1 _ _ _ ⟨fun c => absurd c (enc_ok ⟨b, hb⟩), fun _ => ⟨fun _ => ?_, fun c => absurd (by decide) c⟩⟩))
  refine w_SL_indexOfChar_1 _ _ _ ?_
  have := ix_l1 (G := G) (F := F) (hc := hc) (zI b).toInt8.toInt32 6 0 rfl (by rw [ixL_ok ⟨b, hb⟩]; exact K)
  exact this
end IXC

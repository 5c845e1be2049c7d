/-! seesAll, both sides -/
section SAL
variable {nb w h g t : Nat} {X Y A : Nat → Nat}
def saA (w h g : Nat) (X Y : Nat → Nat) (nb e : Nat) (l : Int32) : Nat → Nat → Bool
  | 0, _ => true
  | m + 1, o => (decide (o = e) || decide (l ≤ zI (vwA w h g X Y nb o e 2))) && saA w h g X Y nb e l m (o + 1)
theorem sa_m {G : rx_Gh} {F : Int32 → rx_Hp → Prop} {hm : rx_Hp} (ok : HOk nb w h g t X Y A) (H : HM nb w h g t X Y A hm) {e : Nat} (he : e < nb) (l : Int32) : ∀ (m o : Nat), o + m = nb → F (b2 (saA w h g X Y nb e l m o)) hm → Rn wM G 7 q_M_seesAll 2 [some (.ref 0), some (.int (zI e)), some (.int l), some (.int (zI o))] [] hm (rI F) := by
  have h6 := ok.1
  intro m
  induction m with
  | zero =>
    intro o ho K
    have hcn : hm.1 0 23 ≤ zI o := by rw [H.1.1]; exact (zI_le (by omega) (by omega)).mpr (by omega)
    exact w_M_seesAll_2 _ _ _ ⟨fun _ => K, fun c => absurd hcn c⟩
  | succ m ih =>
    intro o ho K
    have hcn : ¬ hm.1 0 23 ≤ zI o := by rw [H.1.1, zI_le (by omega) (by omega)]; omega
    have c2 : zI (o : Int) = zI (e : Int) ↔ o = e := by rw [zI_eq (by omega) (by omega)]; omega
    rw [saA] at K
    refine w_M_seesAll_2 _ _ _ ⟨fun c => absurd c hcn, fun _ => ?_⟩
    rw [show zI (o : Int) + 1 = zI ((o + 1 : Nat) : Int) from zI_add o 1, c2, show (2 : Int32) = zI ((2 : Nat) : Int) from by decide]
    refine ⟨fun c => ih (o + 1) (by omega) ?_, fun c => vw_m ok H (by omega) he (by omega) ⟨fun d => ih (o + 1) (by omega) ?_, fun d => ?_⟩⟩
    · rw [decide_eq_true c, Bool.true_or, Bool.true_and] at K; exact K
    · rw [decide_eq_true d, Bool.or_true, Bool.true_and] at K; exact K
    · rw [decide_eq_false c, decide_eq_false d] at K; exact K
theorem sa_c {G : rx_Gh} {F : Int32 → rx_Hp → Prop} (ok : HOk nb w h g t X Y A) {g' : Nat} (hg : g' < 16) {e : Nat} (he : e < nb) (l : Int32) : ∀ (m o : Nat) (hc : rx_Hp), HC nb w h g t X Y A hc → o + m = nb → (∀ h', Fr siF [] hc h' → F (b2 (saA w h g' X Y nb e l m o)) h') → Rn wC G 6 q_Si_seesAll 3 [some (.ref 43), some (.int (zI e)), some (.int l), some (.int (zI g')), some (.int (zI o))] [] hc (rI F) := by
  have h6 := ok.1
  intro m
  induction m with
  | zero =>
    intro o hc H ho K
    have hcn : hc.1 3 4 ≤ zI o := by rw [H.1.1]; exact (zI_le (by omega) (by omega)).mpr (by omega)
    exact w_Si_seesAll_3 _ _ _ _ ⟨fun _ => K hc Fr.rf, fun c => absurd hcn c⟩
  | succ m ih =>
    intro o hc H ho K
    have hcn : ¬ hc.1 3 4 ≤ zI o := by rw [H.1.1, zI_le (by omega) (by omega)]; omega
    have c2 : zI (o : Int) = zI (e : Int) ↔ o = e := by rw [zI_eq (by omega) (by omega)]; omega
    refine w_Si_seesAll_3 _ _ _ _ ⟨fun c => absurd c hcn, fun _ => ?_⟩
    rw [show zI (o : Int) + 1 = zI ((o + 1 : Nat) : Int) from zI_add o 1, c2, show (2 : Int32) = zI ((2 : Nat) : Int) from by decide]
    refine ⟨fun c => ih (o + 1) hc H (by omega) (fun h' f => ?_), fun c => vc_c ok H hg (by omega) he (by omega) (fun h1 f1 => ⟨fun d => ih (o + 1) h1 (H.fr f1) (by omega) (fun h' f => ?_), fun d => ?_⟩)⟩
    · have K := K h' f
      rw [saA, decide_eq_true c, Bool.true_or, Bool.true_and] at K; exact K
    · have K := K h' (Fr.tr f1 f)
      rw [saA, decide_eq_true d, Bool.or_true, Bool.true_and] at K; exact K
    · have K := K h1 f1
      rw [saA, decide_eq_false c, decide_eq_false d] at K; exact K
end SAL

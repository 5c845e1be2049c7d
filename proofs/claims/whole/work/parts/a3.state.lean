/-! the whole state, both sides; text -/
abbrev Gs : Type := (Nat × (Nat → Nat)) × (Nat × Nat × Nat × Nat × Nat × (Nat → Nat) × (Nat → Nat) × (Nat → Nat)) × (Nat × (Nat → Nat → Nat)) × (Nat × (Nat → Nat)) × (Nat × (Nat → Nat) × (Nat → Nat)) × (Nat × Int × (Nat → List Cl))
abbrev Gs.n (S : Gs) : Nat := S.1.1
abbrev Gs.tb (S : Gs) : Nat → Nat := S.1.2
abbrev Gs.nb (S : Gs) : Nat := S.2.1.1
abbrev Gs.w (S : Gs) : Nat := S.2.1.2.1
abbrev Gs.h (S : Gs) : Nat := S.2.1.2.2.1
abbrev Gs.g (S : Gs) : Nat := S.2.1.2.2.2.1
abbrev Gs.t (S : Gs) : Nat := S.2.1.2.2.2.2.1
abbrev Gs.X (S : Gs) : Nat → Nat := S.2.1.2.2.2.2.2.1
abbrev Gs.Y (S : Gs) : Nat → Nat := S.2.1.2.2.2.2.2.2.1
abbrev Gs.A (S : Gs) : Nat → Nat := S.2.1.2.2.2.2.2.2.2
abbrev Gs.na (S : Gs) : Nat := S.2.2.1.1
abbrev Gs.R (S : Gs) : Nat → Nat → Nat := S.2.2.1.2
abbrev Gs.kp (S : Gs) : Nat := S.2.2.2.1.1
abbrev Gs.kr (S : Gs) : Nat → Nat := S.2.2.2.1.2
abbrev Gs.np (S : Gs) : Nat := S.2.2.2.2.1.1
abbrev Gs.pe (S : Gs) : Nat → Nat := S.2.2.2.2.1.2.1
abbrev Gs.pf (S : Gs) : Nat → Nat := S.2.2.2.2.1.2.2
abbrev Gs.nl (S : Gs) : Nat := S.2.2.2.2.2.1
abbrev Gs.hd (S : Gs) : Int := S.2.2.2.2.2.2.1
abbrev Gs.Lt (S : Gs) : Nat → List Cl := S.2.2.2.2.2.2.2
def ROk (S : Gs) : Prop := TOk S.n S.tb ∧ HOk S.nb S.w S.h S.g S.t S.X S.Y S.A ∧ AOk S.nb S.w S.h S.na S.R ∧ KOk S.nb S.w S.h S.kp S.kr ∧ POk S.nb S.np S.pe S.pf ∧ LOk S.nl S.hd ∧ LGOk S.nl S.Lt
def RC (S : Gs) (hc : rx_Hp) : Prop := TC S.n S.tb hc ∧ HC S.nb S.w S.h S.g S.t S.X S.Y S.A hc ∧ (∃ nx, AC S.nb S.na nx S.R hc) ∧ KC S.nb S.kp S.kr hc ∧ PC S.np S.pe S.pf hc ∧ LC S.nl S.hd hc ∧ LGC S.nl S.Lt hc
def RM (S : Gs) (hm : rx_Hp) : Prop := TM S.n S.tb hm ∧ HM S.nb S.w S.h S.g S.t S.X S.Y S.A hm ∧ AM S.nb S.na S.R hm ∧ KM S.nb S.kp S.kr hm ∧ PM S.np S.pe S.pf hm ∧ LM S.nl S.hd hm ∧ LGM S.nl S.Lt hm
section GRP
variable {S : Gs} {hx : rx_Hp}
theorem ROk.t (x : ROk S) : TOk S.n S.tb := x.1
theorem RC.t (x : RC S hx) : TC S.n S.tb hx := x.1
theorem RM.t (x : RM S hx) : TM S.n S.tb hx := x.1
theorem ROk.h (x : ROk S) : HOk S.nb S.w S.h S.g S.t S.X S.Y S.A := x.2.1
theorem RC.h (x : RC S hx) : HC S.nb S.w S.h S.g S.t S.X S.Y S.A hx := x.2.1
theorem RM.h (x : RM S hx) : HM S.nb S.w S.h S.g S.t S.X S.Y S.A hx := x.2.1
theorem ROk.a (x : ROk S) : AOk S.nb S.w S.h S.na S.R := x.2.2.1
theorem RC.a (x : RC S hx) : ∃ nx, AC S.nb S.na nx S.R hx := x.2.2.1
theorem RM.a (x : RM S hx) : AM S.nb S.na S.R hx := x.2.2.1
theorem ROk.k (x : ROk S) : KOk S.nb S.w S.h S.kp S.kr := x.2.2.2.1
theorem RC.k (x : RC S hx) : KC S.nb S.kp S.kr hx := x.2.2.2.1
theorem RM.k (x : RM S hx) : KM S.nb S.kp S.kr hx := x.2.2.2.1
theorem ROk.p (x : ROk S) : POk S.nb S.np S.pe S.pf := x.2.2.2.2.1
theorem RC.p (x : RC S hx) : PC S.np S.pe S.pf hx := x.2.2.2.2.1
theorem RM.p (x : RM S hx) : PM S.np S.pe S.pf hx := x.2.2.2.2.1
theorem ROk.l (x : ROk S) : LOk S.nl S.hd := x.2.2.2.2.2.1
theorem RC.l (x : RC S hx) : LC S.nl S.hd hx := x.2.2.2.2.2.1
theorem RM.l (x : RM S hx) : LM S.nl S.hd hx := x.2.2.2.2.2.1
theorem ROk.g (x : ROk S) : LGOk S.nl S.Lt := x.2.2.2.2.2.2
theorem RC.g (x : RC S hx) : LGC S.nl S.Lt hx := x.2.2.2.2.2.2
theorem RM.g (x : RM S hx) : LGM S.nl S.Lt hx := x.2.2.2.2.2.2
end GRP
def lgF : List (Nat × Nat) := [(20, 2), (23, 2), (26, 2), (29, 2)]
def lgA : List Nat := [21, 22, 24, 25, 27, 28, 30, 31]
theorem LGC.fr {nl : Nat} {Lt : Nat → List Cl} {a b : rx_Hp} {fs : List (Nat × Nat)} {as : List Nat} (h : LGC nl Lt a) (hn : nl ≤ 4) (f : Fr fs as a b) (h1 : ∀ x ∈ lgF, x ∉ fs := by decide) (h2 : ∀ x ∈ lgA, x ∉ as := by decide) : LGC nl Lt b := by
  intro i hi
  have h4 : i = 0 ∨ i = 1 ∨ i = 2 ∨ i = 3 := by omega
  obtain ⟨q1, q2⟩ := h i hi
  refine ⟨?_, fun j t ht => ?_⟩
  · rw [f.1 (20 + 3 * i) 2 (h1 _ (by rcases h4 with rfl | rfl | rfl | rfl <;> decide))]; exact q1
  · rw [f.2.1 (20 + 3 * i + 1) (h2 _ (by rcases h4 with rfl | rfl | rfl | rfl <;> decide)), f.2.1 (20 + 3 * i + 2) (h2 _ (by rcases h4 with rfl | rfl | rfl | rfl <;> decide))]; exact q2 j t ht
theorem LGM.fr {nl : Nat} {Lt : Nat → List Cl} {a b : rx_Hp} {fs : List (Nat × Nat)} {as : List Nat} (h : LGM nl Lt a) (f : Fr fs as a b) (h2 : ∀ x ∈ [2, 3, 5, 6, 7, 8], x ∉ as := by decide) : LGM nl Lt b := by
  intro i hi
  obtain ⟨⟨q1, q2⟩, q3⟩ := h i hi
  refine ⟨⟨?_, fun j c hc => ?_⟩, fun j t ht => ?_⟩
  · rw [f.2.1 5 (h2 _ (by decide))]; exact q1
  · rw [f.2.1 6 (h2 _ (by decide)), f.2.1 7 (h2 _ (by decide)), f.2.1 8 (h2 _ (by decide))]; exact q2 j c hc
  · rw [f.2.1 2 (h2 _ (by decide)), f.2.1 3 (h2 _ (by decide))]; exact q3 j t ht
def cfs : List (Nat × Nat) := [(1, 1), (3, 4), (3, 5), (3, 6), (3, 7), (3, 8), (37, 1), (37, 2), (0, 16), (47, 3), (0, 14), (0, 15), (20, 2), (23, 2), (26, 2), (29, 2)]
def cas : List Nat := [2, 4, 5, 6, 7, 38, 39, 48, 49, 21, 22, 24, 25, 27, 28, 30, 31]
def mfs : List (Nat × Nat) := [(0, 2), (0, 23), (0, 24), (0, 25), (0, 26), (0, 27), (0, 30), (0, 44), (0, 42), (0, 13), (0, 28)]
def mas : List Nat := [1, 13, 14, 15, 16, 23, 21, 22, 2, 3, 5, 6, 7, 8]
theorem RC.fr {S : Gs} {a b : rx_Hp} {fs : List (Nat × Nat)} {as : List Nat} (h : RC S a) (ok : ROk S) (f : Fr fs as a b) (h1 : ∀ x ∈ cfs, x ∉ fs := by decide) (h2 : ∀ x ∈ cas, x ∉ as := by decide) : RC S b := by
  obtain ⟨q1, q2, ⟨nx, q3⟩, q4, q5, q6, q7⟩ := h
  have e : ∀ x ∈ lgF, x ∈ cfs := by decide
  have e' : ∀ x ∈ lgA, x ∈ cas := by decide
  refine ⟨q1.fr f (h1 _ (by decide)) (h2 _ (by decide)), q2.fr f ⟨h1 _ (by decide), h1 _ (by decide), h1 _ (by decide), h1 _ (by decide), h1 _ (by decide)⟩ ⟨h2 _ (by decide), h2 _ (by decide), h2 _ (by decide), h2 _ (by decide)⟩, ⟨nx, q3.fr f ⟨h1 _ (by decide), h1 _ (by decide)⟩ (h2 _ (by decide))⟩, q4.fr f (h1 _ (by decide)) (h2 _ (by decide)), q5.fr f (h1 _ (by decide)) ⟨h2 _ (by decide), h2 _ (by decide)⟩, q6.fr f ⟨h1 _ (by decide), h1 _ (by decide)⟩, q7.fr ok.l.1 f (fun x hx => h1 x (e x hx)) (fun x hx => h2 x (e' x hx))⟩
theorem RM.fr {S : Gs} {a b : rx_Hp} {fs : List (Nat × Nat)} {as : List Nat} (h : RM S a) (f : Fr fs as a b) (h1 : ∀ x ∈ mfs, x ∉ fs := by decide) (h2 : ∀ x ∈ mas, x ∉ as := by decide) : RM S b := by
  obtain ⟨q1, q2, q3, q4, q5, q6, q7⟩ := h
  have e' : ∀ x ∈ [2, 3, 5, 6, 7, 8], x ∈ mas := by decide
  refine ⟨q1.fr f (h1 _ (by decide)) (h2 _ (by decide)), q2.fr f ⟨h1 _ (by decide), h1 _ (by decide), h1 _ (by decide), h1 _ (by decide), h1 _ (by decide)⟩ ⟨h2 _ (by decide), h2 _ (by decide), h2 _ (by decide)⟩, q3.fr f (h1 _ (by decide)) (h2 _ (by decide)), q4.fr f (h1 _ (by decide)) (h2 _ (by decide)), q5.fr f (h1 _ (by decide)) ⟨h2 _ (by decide), h2 _ (by decide)⟩, q6.fr f ⟨h1 _ (by decide), h1 _ (by decide)⟩, q7.fr f (fun x hx => h2 x (e' x hx))⟩
/-- which light a reader holds is no part of the state -/
theorem RC.pl {S : Gs} {a : rx_Hp} (h : RC S a) (o : Nat) : RC S (rx_pl a o) := ⟨h.t, h.h, h.a, h.k, h.p, h.l, h.g⟩
theorem RM.mw {S : Gs} {a b : rx_Hp} (h : RM S a) {r : Nat} (hr : S.nl ≤ r) (hz : ∀ i c, i < S.nl → S.Lt i = c → c.length ≤ 90 ∧ (mlT c).length ≤ 340) (f : mwr r a b) : RM S b := by
  obtain ⟨q1, q2, q3, q4, q5, q6, q7⟩ := h
  obtain ⟨f, w1, w2, w3⟩ := f
  refine ⟨q1.fr f, q2.fr f, q3.fr f, q4.fr f, q5.fr f, q6.fr f, fun i hi => ?_⟩
  obtain ⟨⟨p1, p2⟩, p3⟩ := q7 i hi
  obtain ⟨z1, z2⟩ := hz i _ hi rfl
  refine ⟨⟨?_, fun j c hc => ?_⟩, fun j t ht => ?_⟩
  · rw [(w2 i (by omega)).2]; exact p1
  · have hj : j < (S.Lt i).length := (List.getElem?_eq_some_iff.mp hc).1
    obtain ⟨a1, a2, a3⟩ := w3 (90 * i + j) (by omega)
    rw [a1, a2, a3]; exact p2 j c hc
  · have hj : j < (mlT (S.Lt i)).length := (List.getElem?_eq_some_iff.mp ht).1
    obtain ⟨a1, a2⟩ := w1 (340 * i + j) (by omega)
    rw [a1, a2]; exact p3 j t ht
theorem mlT_le : ∀ (cs : List Cl), (mlT cs).length ≤ (flA cs).length := by
  have hg : ∀ (cs : List Cl) (T T' : List Tk), T.length ≤ T'.length → (cs.foldl (fun T c => T ++ (c.1 ++ c.2)) T).length ≤ (cs.foldl (fun T c => T ++ clF T.length c) T').length := by
    intro cs
    induction cs with
    | nil => intro T T' h; exact h
    | cons c cs ih =>
      intro T T' h
      refine ih _ _ ?_
      rw [List.length_append, List.length_append, List.length_append]
      have : c.1.length + c.2.length ≤ (clF T'.length c).length := by
        unfold clF
        by_cases q : c.1 = []
        · rw [if_pos q, q, List.length_append]; simp
        · rw [if_neg q]; simp; omega
      omega
  exact fun cs => hg cs [] [] (Nat.le_refl _)
theorem ROk.lz {S : Gs} (ok : ROk S) : ∀ i c, i < S.nl → S.Lt i = c → c.length ≤ 90 ∧ (mlT c).length ≤ 340 := by
  intro i c hi hc
  subst hc
  have := ok.g i hi
  have h2 := mlT_le (S.Lt i)
  exact ⟨by have := this.2.2; omega, by have := this.2.1; omega⟩
